-- fm_52 Reader.readAsk 31 i
theorem sm_52 {R41 : Int → (lf_Z → Prop) → lf_Z → Prop} {R52 : Int → (lf_Z → Prop) → lf_Z → Prop} {a1 : Int} {Q : lf_Z → Prop} {s : lf_Z} {MR : Nat} (hR41 : ∀ {a1 : Int} {Q : lf_Z → Prop} {s : lf_Z}, (20 * (9 - a1) + 3).toNat < MR → iv_A s.1 s.2.2 → s.2.2 2 ≠ none → 0 ≤ a1 ∧ a1 ≤ 8 → (∀  (s' : lf_Z), iv_A s'.1 s'.2.2 → lf_fq [31, 33, 35, 36, 42, 43, 49, 50, 56, 57] 1000000 true s.1 s.2.2 s'.1 s'.2.2 → Q  s') → R41 a1 Q s) (hR52 : ∀ {a1 : Int} {Q : lf_Z → Prop} {s : lf_Z}, (20 * (9 - a1) + 4).toNat < MR → iv_A s.1 s.2.2 → s.2.2 2 ≠ none → 1 ≤ a1 ∧ a1 ≤ 8 → (∀  (s' : lf_Z), iv_A s'.1 s'.2.2 → lf_fq [31, 33, 35, 36, 42, 43, 49, 50, 56, 57] 1000000 true s.1 s.2.2 s'.1 s'.2.2 → Q  s') → R52 a1 Q s) (hMR : (20 * (9 - a1) + 4).toNat ≤ MR) (hI : iv_A s.1 s.2.2) (n2 : s.2.2 2 ≠ none) (ba1 : 1 ≤ a1 ∧ a1 ≤ 8) (hQ : ∀  (s' : lf_Z), iv_A s'.1 s'.2.2 → lf_fq [31, 33, 35, 36, 42, 43, 49, 50, 56, 57] 1000000 true s.1 s.2.2 s'.1 s'.2.2 → Q  s') : fm_52 R41 R52 a1 Q s := by
  unfold fm_52
  have b1 : 0 ≤ s.1 31 8 ∧ s.1 31 8 ≤ 300 := iv_r31_8 hI
  refine ⟨(show lf_R (s.1 31 8) from lf_Rof (by omega)), ?_⟩
  refine ⟨fun c2 => ?_, fun c2 => ?_⟩
  · skip
    replace c2 : s.1 31 8 ≠ 44 := c2
    refine hR41 (show (20 * (9 - a1) + 3).toNat < MR from by omega) hI n2 (show (0 : Int) ≤ a1 ∧ a1 ≤ (8 : Int) from by omega) (fun s22 hI4 fr3 => ?_)
    have fr6 : lf_fq [31, 33, 35, 36, 42, 43, 49, 50, 56, 57] 1000000 true s.1 s.2.2 s22.1 s22.2.2 := lf_fq_tr (lf_fq_rf) (lf_fq_wk fr3 rfl (by decide) (by decide))
    have n7 : s22.2.2 2 ≠ none := lf_fq_n2 fr3 rfl n2
    have b8 : 0 ≤ s22.1 31 8 ∧ s22.1 31 8 ≤ 300 := iv_r31_8 hI4
    refine sm_15 hI4 (show (-2147483648 : Int) ≤ s22.1 31 8 ∧ s22.1 31 8 ≤ (2147483647 : Int) from by omega) (show (-1 : Int) ≤ 4 ∧ 4 ≤ (99 : Int) from by omega) (show (-2147483648 : Int) ≤ 9 ∧ 9 ≤ (2147483647 : Int) from by omega) (fun z24 q9 => ?_)
    refine ⟨fun c10 => ?_, fun c10 => ?_⟩
    · skip
      have dc10 := q9.1 c10
      refine sm_31 hI4 (fun s25 hI12 fr11 => ?_)
      have fr14 : lf_fq [31, 33, 35, 36, 42, 43, 49, 50, 56, 57] 1000000 true s.1 s.2.2 s25.1 s25.2.2 := lf_fq_tr fr6 (lf_fq_wk fr11 rfl (by decide) (by decide))
      have n15 : s25.2.2 2 ≠ none := lf_fq_n2 fr11 rfl n7
      refine hR41 (show (20 * (9 - a1) + 3).toNat < MR from by omega) hI12 n15 (show (0 : Int) ≤ a1 ∧ a1 ≤ (8 : Int) from by omega) (fun s26 hI17 fr16 => ?_)
      have fr19 : lf_fq [31, 33, 35, 36, 42, 43, 49, 50, 56, 57] 1000000 true s.1 s.2.2 s26.1 s26.2.2 := lf_fq_tr fr14 (lf_fq_wk fr16 rfl (by decide) (by decide))
      have n20 : s26.2.2 2 ≠ none := lf_fq_n2 fr16 rfl n15
      refine ⟨fun et27 => ?_, fun t27 et27 => ?_⟩
      · skip
        exact absurd et27 n20
      · have htt27 : t27 < 4 := iv_t2 hI17 et27
        refine ⟨htt27, ?_⟩
        refine sm_45 htt27 hI17 (show (0 : Int) ≤ s22.1 31 8 ∧ s22.1 31 8 ≤ (300 : Int) from by omega) (show (0 : Int) ≤ 0 ∧ 0 ≤ (1000000 : Int) from by omega) (fun r29 s28 hI22 fr21 q23 => ?_)
        have fr24 : lf_fq [31, 33, 35, 36, 42, 43, 49, 50, 56, 57] 1000000 true s.1 s.2.2 s28.1 s28.2.2 := lf_fq_tr fr19 (lf_fq_wk fr21 rfl (by decide) (by decide))
        have n25 : s28.2.2 2 ≠ none := lf_fq_n2 fr21 rfl n20
        exact hQ s28 hI22 fr24
    · skip
      have dc10 := q9.2 c10
      refine sm_39 hI4 (show (1 : Int) ≤ 1 ∧ 1 ≤ (6 : Int) from by omega) (fun s30 hI27 fr26 => ?_)
      have fr29 : lf_fq [31, 33, 35, 36, 42, 43, 49, 50, 56, 57] 1000000 true s.1 s.2.2 s30.1 s30.2.2 := lf_fq_tr fr6 (lf_fq_wk fr26 rfl (by decide) (by decide))
      have n30 : s30.2.2 2 ≠ none := lf_fq_n2 fr26 rfl n7
      exact hQ s30 hI27 fr29
  · skip
    replace c2 : ¬ (s.1 31 8 ≠ 44) := c2
    refine sm_47 hI (show (0 : Int) ≤ a1 ∧ a1 ≤ (8 : Int) from by omega) (fun z32 s31 hI32 fr31 q33 => ?_)
    have fr34 : lf_fq [31, 33, 35, 36, 42, 43, 49, 50, 56, 57] 1000000 true s.1 s.2.2 s31.1 s31.2.2 := lf_fq_tr (lf_fq_rf) (lf_fq_wk fr31 rfl (by decide) (by decide))
    have n35 : s31.2.2 2 ≠ none := lf_fq_n2 fr31 rfl n2
    refine ⟨fun c36 => ?_, fun c36 => ?_⟩
    · skip
      have dc36 := q33.2 c36
      exact hQ s31 hI32 fr34
    · skip
      have dc36 := q33.1 c36
      refine hR52 (show (20 * (9 - (a1 + 1)) + 4).toNat < MR from by omega) hI32 n35 (show (1 : Int) ≤ a1 + 1 ∧ a1 + 1 ≤ (8 : Int) from by omega) (fun s33 hI38 fr37 => ?_)
      have fr40 : lf_fq [31, 33, 35, 36, 42, 43, 49, 50, 56, 57] 1000000 true s.1 s.2.2 s33.1 s33.2.2 := lf_fq_tr fr34 (lf_fq_wk fr37 rfl (by decide) (by decide))
      have n41 : s33.2.2 2 ≠ none := lf_fq_n2 fr37 rfl n35
      refine ⟨fun et34 => ?_, fun t34 et34 => ?_⟩
      · skip
        exact absurd et34 n41
      · have htt34 : t34 < 4 := iv_t2 hI38 et34
        refine ⟨htt34, ?_⟩
        refine sm_45 htt34 hI38 (show (0 : Int) ≤ 44 ∧ 44 ≤ (300 : Int) from by omega) (show (0 : Int) ≤ 0 ∧ 0 ≤ (1000000 : Int) from by omega) (fun r36 s35 hI43 fr42 q44 => ?_)
        have fr45 : lf_fq [31, 33, 35, 36, 42, 43, 49, 50, 56, 57] 1000000 true s.1 s.2.2 s35.1 s35.2.2 := lf_fq_tr fr40 (lf_fq_wk fr42 rfl (by decide) (by decide))
        have n46 : s35.2.2 2 ≠ none := lf_fq_n2 fr42 rfl n41
        exact hQ s35 hI43 fr45
-- cl_41 cluster
theorem sc_41T : ∀ n : Nat, (∀ {a1 : Int} {Q : lf_Z → Prop} {s : lf_Z}, (20 * (9 - a1) + 3).toNat < n → iv_A s.1 s.2.2 → s.2.2 2 ≠ none → 0 ≤ a1 ∧ a1 ≤ 8 → (∀  (s' : lf_Z), iv_A s'.1 s'.2.2 → lf_fq [31, 33, 35, 36, 42, 43, 49, 50, 56, 57] 1000000 true s.1 s.2.2 s'.1 s'.2.2 → Q  s') → (fc_41T n).1 a1 Q s) ∧ (∀ {a1 : Int} {Q : lf_Z → Prop} {s : lf_Z}, (20 * (9 - a1) + 2).toNat < n → iv_A s.1 s.2.2 → s.2.2 2 ≠ none → 0 ≤ a1 ∧ a1 ≤ 8 → (∀  (s' : lf_Z), iv_A s'.1 s'.2.2 → lf_fq [31, 33, 35, 36, 42, 43, 49, 50, 56, 57] 1000000 true s.1 s.2.2 s'.1 s'.2.2 → Q  s') → (fc_41T n).2.1 a1 Q s) ∧ (∀ {a1 : Int} {Q : lf_Z → Prop} {s : lf_Z}, (20 * (9 - a1) + 1).toNat < n → iv_A s.1 s.2.2 → s.2.2 2 ≠ none → 0 ≤ a1 ∧ a1 ≤ 8 → (∀  (s' : lf_Z), iv_A s'.1 s'.2.2 → lf_fq [31, 33, 35, 36, 42, 43, 49, 50, 56, 57] 1000000 true s.1 s.2.2 s'.1 s'.2.2 → Q  s') → (fc_41T n).2.2.1 a1 Q s) ∧ (∀ {a1 : Int} {Q : lf_Z → Prop} {s : lf_Z}, (20 * (9 - a1) + 7).toNat < n → iv_A s.1 s.2.2 → s.2.2 2 ≠ none → 1 ≤ a1 ∧ a1 ≤ 8 → (∀  (s' : lf_Z), iv_A s'.1 s'.2.2 → lf_fq [31, 33, 35, 36, 42, 43, 49, 50, 56, 57] 1000000 true s.1 s.2.2 s'.1 s'.2.2 → Q  s') → (fc_41T n).2.2.2.1 a1 Q s) ∧ (∀ {a1 : Int} {Q : lf_Z → Prop} {s : lf_Z}, (20 * (9 - a1) + 7).toNat < n → iv_A s.1 s.2.2 → s.2.2 2 ≠ none → 1 ≤ a1 ∧ a1 ≤ 8 → (∀  (s' : lf_Z), iv_A s'.1 s'.2.2 → lf_fq [31, 33, 35, 36, 42, 43, 49, 50, 56, 57] 1000000 true s.1 s.2.2 s'.1 s'.2.2 → Q  s') → (fc_41T n).2.2.2.2.1 a1 Q s) ∧ (∀ {a1 : Int} {Q : lf_Z → Prop} {s : lf_Z}, (20 * (9 - a1) + 6).toNat < n → iv_A s.1 s.2.2 → s.2.2 2 ≠ none → 1 ≤ a1 ∧ a1 ≤ 8 → (∀  (s' : lf_Z), iv_A s'.1 s'.2.2 → lf_fq [31, 33, 35, 36, 42, 43, 49, 50, 56, 57] 1000000 true s.1 s.2.2 s'.1 s'.2.2 → Q  s') → (fc_41T n).2.2.2.2.2.1 a1 Q s) ∧ (∀ {a1 : Int} {Q : lf_Z → Prop} {s : lf_Z}, (20 * (9 - a1) + 5).toNat < n → iv_A s.1 s.2.2 → s.2.2 2 ≠ none → 1 ≤ a1 ∧ a1 ≤ 8 → (∀  (s' : lf_Z), iv_A s'.1 s'.2.2 → lf_fq [31, 33, 35, 36, 42, 43, 49, 50, 56, 57] 1000000 true s.1 s.2.2 s'.1 s'.2.2 → Q  s') → (fc_41T n).2.2.2.2.2.2.1 a1 Q s) ∧ (∀ {a1 : Int} {Q : lf_Z → Prop} {s : lf_Z}, (20 * (9 - a1) + 4).toNat < n → iv_A s.1 s.2.2 → s.2.2 2 ≠ none → 1 ≤ a1 ∧ a1 ≤ 8 → (∀  (s' : lf_Z), iv_A s'.1 s'.2.2 → lf_fq [31, 33, 35, 36, 42, 43, 49, 50, 56, 57] 1000000 true s.1 s.2.2 s'.1 s'.2.2 → Q  s') → (fc_41T n).2.2.2.2.2.2.2 a1 Q s)
  | 0 => ⟨by intros; omega, by intros; omega, by intros; omega, by intros; omega, by intros; omega, by intros; omega, by intros; omega, by intros; omega⟩
  | n + 1 => ⟨fun hm hI n2 b1 hQ => sm_41 (MR := n) (sc_41T n).2.1 (by omega) hI n2 b1 hQ, fun hm hI n2 b1 hQ => sm_42 (MR := n) (sc_41T n).2.2.1 (by omega) hI n2 b1 hQ, fun hm hI n2 b1 hQ => sm_43 (MR := n) (sc_41T n).1 (sc_41T n).2.2.1 (sc_41T n).2.2.2.1 (sc_41T n).2.2.2.2.1 (by omega) hI n2 b1 hQ, fun hm hI n2 b1 hQ => sm_49 (MR := n) (sc_41T n).1 (sc_41T n).2.2.2.2.2.1 (by omega) hI n2 b1 hQ, fun hm hI n2 b1 hQ => sm_54 (MR := n) (sc_41T n).1 (by omega) hI n2 b1 hQ, fun hm hI n2 b1 hQ => sm_50 (MR := n) (sc_41T n).2.2.2.2.2.2.1 (by omega) hI n2 b1 hQ, fun hm hI n2 b1 hQ => sm_51 (MR := n) (sc_41T n).2.2.2.2.2.2.2 (by omega) hI n2 b1 hQ, fun hm hI n2 b1 hQ => sm_52 (MR := n) (sc_41T n).1 (sc_41T n).2.2.2.2.2.2.2 (by omega) hI n2 b1 hQ⟩
theorem sc_41 {a1 : Int} {Q : lf_Z → Prop} {s : lf_Z} (hI : iv_A s.1 s.2.2) (n2 : s.2.2 2 ≠ none) (ba1 : 0 ≤ a1 ∧ a1 ≤ 8) (hQ : ∀  (s' : lf_Z), iv_A s'.1 s'.2.2 → lf_fq [31, 33, 35, 36, 42, 43, 49, 50, 56, 57] 1000000 true s.1 s.2.2 s'.1 s'.2.2 → Q  s') : fc_41 a1 Q s := (sc_41T 200).1 (by omega) hI n2 ba1 hQ
theorem sc_42 {a1 : Int} {Q : lf_Z → Prop} {s : lf_Z} (hI : iv_A s.1 s.2.2) (n2 : s.2.2 2 ≠ none) (ba1 : 0 ≤ a1 ∧ a1 ≤ 8) (hQ : ∀  (s' : lf_Z), iv_A s'.1 s'.2.2 → lf_fq [31, 33, 35, 36, 42, 43, 49, 50, 56, 57] 1000000 true s.1 s.2.2 s'.1 s'.2.2 → Q  s') : fc_42 a1 Q s := (sc_41T 200).2.1 (by omega) hI n2 ba1 hQ
theorem sc_43 {a1 : Int} {Q : lf_Z → Prop} {s : lf_Z} (hI : iv_A s.1 s.2.2) (n2 : s.2.2 2 ≠ none) (ba1 : 0 ≤ a1 ∧ a1 ≤ 8) (hQ : ∀  (s' : lf_Z), iv_A s'.1 s'.2.2 → lf_fq [31, 33, 35, 36, 42, 43, 49, 50, 56, 57] 1000000 true s.1 s.2.2 s'.1 s'.2.2 → Q  s') : fc_43 a1 Q s := (sc_41T 200).2.2.1 (by omega) hI n2 ba1 hQ
theorem sc_49 {a1 : Int} {Q : lf_Z → Prop} {s : lf_Z} (hI : iv_A s.1 s.2.2) (n2 : s.2.2 2 ≠ none) (ba1 : 1 ≤ a1 ∧ a1 ≤ 8) (hQ : ∀  (s' : lf_Z), iv_A s'.1 s'.2.2 → lf_fq [31, 33, 35, 36, 42, 43, 49, 50, 56, 57] 1000000 true s.1 s.2.2 s'.1 s'.2.2 → Q  s') : fc_49 a1 Q s := (sc_41T 200).2.2.2.1 (by omega) hI n2 ba1 hQ
theorem sc_54 {a1 : Int} {Q : lf_Z → Prop} {s : lf_Z} (hI : iv_A s.1 s.2.2) (n2 : s.2.2 2 ≠ none) (ba1 : 1 ≤ a1 ∧ a1 ≤ 8) (hQ : ∀  (s' : lf_Z), iv_A s'.1 s'.2.2 → lf_fq [31, 33, 35, 36, 42, 43, 49, 50, 56, 57] 1000000 true s.1 s.2.2 s'.1 s'.2.2 → Q  s') : fc_54 a1 Q s := (sc_41T 200).2.2.2.2.1 (by omega) hI n2 ba1 hQ
theorem sc_50 {a1 : Int} {Q : lf_Z → Prop} {s : lf_Z} (hI : iv_A s.1 s.2.2) (n2 : s.2.2 2 ≠ none) (ba1 : 1 ≤ a1 ∧ a1 ≤ 8) (hQ : ∀  (s' : lf_Z), iv_A s'.1 s'.2.2 → lf_fq [31, 33, 35, 36, 42, 43, 49, 50, 56, 57] 1000000 true s.1 s.2.2 s'.1 s'.2.2 → Q  s') : fc_50 a1 Q s := (sc_41T 200).2.2.2.2.2.1 (by omega) hI n2 ba1 hQ
theorem sc_51 {a1 : Int} {Q : lf_Z → Prop} {s : lf_Z} (hI : iv_A s.1 s.2.2) (n2 : s.2.2 2 ≠ none) (ba1 : 1 ≤ a1 ∧ a1 ≤ 8) (hQ : ∀  (s' : lf_Z), iv_A s'.1 s'.2.2 → lf_fq [31, 33, 35, 36, 42, 43, 49, 50, 56, 57] 1000000 true s.1 s.2.2 s'.1 s'.2.2 → Q  s') : fc_51 a1 Q s := (sc_41T 200).2.2.2.2.2.2.1 (by omega) hI n2 ba1 hQ
theorem sc_52 {a1 : Int} {Q : lf_Z → Prop} {s : lf_Z} (hI : iv_A s.1 s.2.2) (n2 : s.2.2 2 ≠ none) (ba1 : 1 ≤ a1 ∧ a1 ≤ 8) (hQ : ∀  (s' : lf_Z), iv_A s'.1 s'.2.2 → lf_fq [31, 33, 35, 36, 42, 43, 49, 50, 56, 57] 1000000 true s.1 s.2.2 s'.1 s'.2.2 → Q  s') : fc_52 a1 Q s := (sc_41T 200).2.2.2.2.2.2.2 (by omega) hI n2 ba1 hQ
-- fm_38 Reader.readClause 31
theorem sm_38_p146 {Q : lf_Z → Prop} {s : lf_Z} (hQ : ∀  (s' : lf_Z), iv_A s'.1 s'.2.2 → lf_fq [31, 33, 35, 36, 37, 38, 39, 40, 41, 42, 43, 44, 45, 46, 47, 48, 49, 50, 51, 52, 53, 54, 55, 56, 57, 58, 59, 60, 61, 62] 1000000 true s.1 s.2.2 s'.1 s'.2.2 → Q  s') (hI : iv_A s.1 s.2.2) (n2 : s.2.2 2 ≠ none) : fm_38_p146 Q s := by
  unfold fm_38_p146
  refine sm_48 hI (show (0 : Int) ≤ 16 ∧ 16 ≤ (99 : Int) from by omega) (fun s31 hI20 fr19 => ?_)
  have fr22 : lf_fq [31, 33, 35, 36, 37, 38, 39, 40, 41, 42, 43, 44, 45, 46, 47, 48, 49, 50, 51, 52, 53, 54, 55, 56, 57, 58, 59, 60, 61, 62] 1000000 true s.1 s.2.2 s31.1 s31.2.2 := lf_fq_tr (lf_fq_rf) (lf_fq_wk fr19 rfl (by decide) (by decide))
  have n23 : s31.2.2 2 ≠ none := lf_fq_n2 fr19 rfl n2
  exact hQ s31 hI20 fr22
theorem sm_38 {Q : lf_Z → Prop} {s : lf_Z} (hI : iv_A s.1 s.2.2) (n2 : s.2.2 2 ≠ none) (hQ : ∀  (s' : lf_Z), iv_A s'.1 s'.2.2 → lf_fq [31, 33, 35, 36, 37, 38, 39, 40, 41, 42, 43, 44, 45, 46, 47, 48, 49, 50, 51, 52, 53, 54, 55, 56, 57, 58, 59, 60, 61, 62] 1000000 true s.1 s.2.2 s'.1 s'.2.2 → Q  s') : fm_38 Q s := by
  unfold fm_38
  have b1 : 0 ≤ s.1 31 8 ∧ s.1 31 8 ≤ 300 := iv_r31_8 hI
  refine sm_15 hI (show (-2147483648 : Int) ≤ s.1 31 8 ∧ s.1 31 8 ≤ (2147483647 : Int) from by omega) (show (-1 : Int) ≤ 20 ∧ 20 ≤ (99 : Int) from by omega) (show (-2147483648 : Int) ≤ 32 ∧ 32 ≤ (2147483647 : Int) from by omega) (fun z22 q2 => ?_)
  refine ⟨fun c3 => ?_, fun c3 => ?_⟩
  · skip
    have dc3 := q2.1 c3
    refine ⟨fun et23 => ?_, fun t23 et23 => ?_⟩
    · skip
      exact absurd et23 n2
    · have htt23 : t23 < 4 := iv_t2 hI et23
      refine ⟨htt23, ?_⟩
      refine sm_40 htt23 hI (show (0 : Int) ≤ (s.1 31 8) - 20 ∧ (s.1 31 8) - 20 ≤ (12 : Int) from by omega) (fun z25 => ?_)
      refine ⟨fun c5 => ?_, fun c5 => ?_⟩
      · skip
        refine ⟨fun et26 => ?_, fun t26 et26 => ?_⟩
        · skip
          exact absurd et26 n2
        · have htt26 : t26 < 4 := iv_t2 hI et26
          refine ⟨htt26, ?_⟩
          have b6 : 0 ≤ s.1 (35 + 7 * t26) 7 ∧ s.1 (35 + 7 * t26) 7 ≤ 24 := iv_rT_7 hI htt26
          refine ⟨(show lf_R (s.1 (35 + 7 * t26) 7) from lf_Rof (by omega)), ?_⟩
          refine ⟨fun c7 => ?_, fun c7 => ?_⟩
          · skip
            replace c7 : s.1 (35 + 7 * t26) 7 < 24 := c7
            refine sm_31 hI (fun s28 hI9 fr8 => ?_)
            have fr11 : lf_fq [31, 33, 35, 36, 37, 38, 39, 40, 41, 42, 43, 44, 45, 46, 47, 48, 49, 50, 51, 52, 53, 54, 55, 56, 57, 58, 59, 60, 61, 62] 1000000 true s.1 s.2.2 s28.1 s28.2.2 := lf_fq_tr (lf_fq_rf) (lf_fq_wk fr8 rfl (by decide) (by decide))
            have n12 : s28.2.2 2 ≠ none := lf_fq_n2 fr8 rfl n2
            refine ⟨(show lf_R (s.1 31 8) from lf_Rof (by omega)), ?_⟩
            refine ⟨fun c13 => ?_, fun c13 => ?_⟩
            · skip
              replace c13 : 22 < s.1 31 8 := c13
              refine sm_58 hI9 n12 (show (23 : Int) ≤ s.1 31 8 ∧ s.1 31 8 ≤ (32 : Int) from by omega) (fun s30 hI15 fr14 => ?_)
              have fr17 : lf_fq [31, 33, 35, 36, 37, 38, 39, 40, 41, 42, 43, 44, 45, 46, 47, 48, 49, 50, 51, 52, 53, 54, 55, 56, 57, 58, 59, 60, 61, 62] 1000000 true s.1 s.2.2 s30.1 s30.2.2 := lf_fq_tr fr11 (lf_fq_wk fr14 rfl (by decide) (by decide))
              have n18 : s30.2.2 2 ≠ none := lf_fq_n2 fr14 rfl n12
              exact sm_38_p146 (fun t9 i9 f9 => hQ t9 i9 (lf_fq_tr fr17 f9)) hI15 n18
            · skip
              replace c13 : ¬ (22 < s.1 31 8) := c13
              have hI24 : iv_A (lf_up s28.1 31 6 ((s.1 31 8) - 20)) s28.2.2 := iv_w31_6 hI9 (by omega)
              have fr25 : lf_fq [31, 33, 35, 36, 37, 38, 39, 40, 41, 42, 43, 44, 45, 46, 47, 48, 49, 50, 51, 52, 53, 54, 55, 56, 57, 58, 59, 60, 61, 62] 1000000 true s.1 s.2.2 (lf_up s28.1 31 6 ((s.1 31 8) - 20)) s28.2.2 := lf_fq_up fr11 rfl (fun h => absurd h (by decide))
              refine ⟨fun et32 => ?_, fun t32 et32 => ?_⟩
              · skip
                exact absurd et32 n12
              · have htt32 : t32 < 4 := iv_t2 hI24 et32
                refine ⟨htt32, ?_⟩
                refine ⟨fun et33 => ?_, fun t33 et33 => ?_⟩
                · skip
                  exact absurd et33 n12
                · have htt33 : t33 < 4 := iv_t2 hI24 et33
                  refine ⟨htt33, ?_⟩
                  have b26 : 0 ≤ (lf_up s28.1 31 6 ((s.1 31 8) - 20)) (35 + 7 * t33) 1 ∧ (lf_up s28.1 31 6 ((s.1 31 8) - 20)) (35 + 7 * t33) 1 ≤ 300 := iv_rT_1 hI24 htt33
                  have b27 : (lf_up s28.1 31 6 ((s.1 31 8) - 20)) (35 + 7 * t33) 1 = s28.1 (35 + 7 * t33) 1 := lf_up_c (by omega)
                  refine ⟨(show (0 : Int) ≤ (s.1 31 8) - 20 ∧ (s.1 31 8) - 20 < (3 : Int) from by omega), ?_⟩
                  have hI28 : iv_A (lf_up (lf_up s28.1 31 6 ((s.1 31 8) - 20)) (37 + 7 * t32) ((s.1 31 8) - 20) ((lf_up s28.1 31 6 ((s.1 31 8) - 20)) (35 + 7 * t33) 1)) s28.2.2 := iv_wTA37 hI24 htt32 (by omega)
                  have fr29 : lf_fq [31, 33, 35, 36, 37, 38, 39, 40, 41, 42, 43, 44, 45, 46, 47, 48, 49, 50, 51, 52, 53, 54, 55, 56, 57, 58, 59, 60, 61, 62] 1000000 true s.1 s.2.2 (lf_up (lf_up s28.1 31 6 ((s.1 31 8) - 20)) (37 + 7 * t32) ((s.1 31 8) - 20) ((lf_up s28.1 31 6 ((s.1 31 8) - 20)) (35 + 7 * t33) 1)) s28.2.2 := lf_fq_upT fr25 htt32 rfl (by decide)
                  refine sc_41 hI28 n12 (show (0 : Int) ≤ 0 ∧ 0 ≤ (8 : Int) from by omega) (fun s35 hI31 fr30 => ?_)
                  have fr33 : lf_fq [31, 33, 35, 36, 37, 38, 39, 40, 41, 42, 43, 44, 45, 46, 47, 48, 49, 50, 51, 52, 53, 54, 55, 56, 57, 58, 59, 60, 61, 62] 1000000 true s.1 s.2.2 s35.1 s35.2.2 := lf_fq_tr fr29 (lf_fq_wk fr30 rfl (by decide) (by decide))
                  have n34 : s35.2.2 2 ≠ none := lf_fq_n2 fr30 rfl n12
                  refine ⟨fun et36 => ?_, fun t36 et36 => ?_⟩
                  · skip
                    exact absurd et36 n34
                  · have htt36 : t36 < 4 := iv_t2 hI31 et36
                    refine ⟨htt36, ?_⟩
                    have b35 : 0 ≤ s35.1 31 6 ∧ s35.1 31 6 ≤ 2 := iv_r31_6 hI31
                    refine ⟨fun et37 => ?_, fun t37 et37 => ?_⟩
                    · skip
                      exact absurd et37 n34
                    · have htt37 : t37 < 4 := iv_t2 hI31 et37
                      refine ⟨htt37, ?_⟩
                      have b36 : 0 ≤ s35.1 (35 + 7 * t37) 1 ∧ s35.1 (35 + 7 * t37) 1 ≤ 300 := iv_rT_1 hI31 htt37
                      refine ⟨(show (0 : Int) ≤ s35.1 31 6 ∧ s35.1 31 6 < (3 : Int) from by omega), ?_⟩
                      have hI37 : iv_A (lf_up s35.1 (38 + 7 * t36) (s35.1 31 6) (s35.1 (35 + 7 * t37) 1)) s35.2.2 := iv_wTA38 hI31 htt36 (by omega)
                      have fr38 : lf_fq [31, 33, 35, 36, 37, 38, 39, 40, 41, 42, 43, 44, 45, 46, 47, 48, 49, 50, 51, 52, 53, 54, 55, 56, 57, 58, 59, 60, 61, 62] 1000000 true s.1 s.2.2 (lf_up s35.1 (38 + 7 * t36) (s35.1 31 6) (s35.1 (35 + 7 * t37) 1)) s35.2.2 := lf_fq_upT fr33 htt36 rfl (by decide)
                      refine ⟨fun et39 => ?_, fun t39 et39 => ?_⟩
                      · skip
                        exact absurd et39 n34
                      · have htt39 : t39 < 4 := iv_t2 hI37 et39
                        refine ⟨htt39, ?_⟩
                        refine sm_57 htt39 hI37 (show (20 : Int) ≤ s.1 31 8 ∧ s.1 31 8 ≤ (32 : Int) from by omega) (show (0 : Int) ≤ 0 ∧ 0 ≤ (9999 : Int) from by omega) (show (0 : Int) ≤ 0 ∧ 0 ≤ (9999 : Int) from by omega) (fun s40 hI40 fr39 => ?_)
                        have fr42 : lf_fq [31, 33, 35, 36, 37, 38, 39, 40, 41, 42, 43, 44, 45, 46, 47, 48, 49, 50, 51, 52, 53, 54, 55, 56, 57, 58, 59, 60, 61, 62] 1000000 true s.1 s.2.2 s40.1 s40.2.2 := lf_fq_tr fr38 (lf_fq_wk fr39 rfl (by decide) (by decide))
                        have n43 : s40.2.2 2 ≠ none := lf_fq_n2 fr39 rfl n34
                        exact sm_38_p146 (fun t9 i9 f9 => hQ t9 i9 (lf_fq_tr fr42 f9)) hI40 n43
          · skip
            replace c7 : ¬ (s.1 (35 + 7 * t26) 7 < 24) := c7
            refine sm_39 hI (show (1 : Int) ≤ 6 ∧ 6 ≤ (6 : Int) from by omega) (fun s41 hI45 fr44 => ?_)
            have fr47 : lf_fq [31, 33, 35, 36, 37, 38, 39, 40, 41, 42, 43, 44, 45, 46, 47, 48, 49, 50, 51, 52, 53, 54, 55, 56, 57, 58, 59, 60, 61, 62] 1000000 true s.1 s.2.2 s41.1 s41.2.2 := lf_fq_tr (lf_fq_rf) (lf_fq_wk fr44 rfl (by decide) (by decide))
            have n48 : s41.2.2 2 ≠ none := lf_fq_n2 fr44 rfl n2
            exact hQ s41 hI45 fr47
      · skip
        refine sm_39 hI (show (1 : Int) ≤ 4 ∧ 4 ≤ (6 : Int) from by omega) (fun s42 hI50 fr49 => ?_)
        have fr52 : lf_fq [31, 33, 35, 36, 37, 38, 39, 40, 41, 42, 43, 44, 45, 46, 47, 48, 49, 50, 51, 52, 53, 54, 55, 56, 57, 58, 59, 60, 61, 62] 1000000 true s.1 s.2.2 s42.1 s42.2.2 := lf_fq_tr (lf_fq_rf) (lf_fq_wk fr49 rfl (by decide) (by decide))
        have n53 : s42.2.2 2 ≠ none := lf_fq_n2 fr49 rfl n2
        exact hQ s42 hI50 fr52
  · skip
    have dc3 := q2.2 c3
    refine sm_39 hI (show (1 : Int) ≤ 1 ∧ 1 ≤ (6 : Int) from by omega) (fun s43 hI55 fr54 => ?_)
    have fr57 : lf_fq [31, 33, 35, 36, 37, 38, 39, 40, 41, 42, 43, 44, 45, 46, 47, 48, 49, 50, 51, 52, 53, 54, 55, 56, 57, 58, 59, 60, 61, 62] 1000000 true s.1 s.2.2 s43.1 s43.2.2 := lf_fq_tr (lf_fq_rf) (lf_fq_wk fr54 rfl (by decide) (by decide))
    have n58 : s43.2.2 2 ≠ none := lf_fq_n2 fr54 rfl n2
    exact hQ s43 hI55 fr57
-- fm_29 Reader.readAll 31 t
theorem sm_29_p72 {Q : Bool → lf_Z → Prop} {s : lf_Z} (hQ : ∀ (z : Bool) (s' : lf_Z), iv_A s'.1 s'.2.2 → lf_fq [31, 33, 35, 36, 37, 38, 39, 40, 41, 42, 43, 44, 45, 46, 47, 48, 49, 50, 51, 52, 53, 54, 55, 56, 57, 58, 59, 60, 61, 62] 1000000 false s.1 s.2.2 s'.1 s'.2.2 → Q z s') (hI : iv_A s.1 s.2.2) (n2 : s.2.2 2 ≠ none) : fm_29_p72 Q s := by
  unfold fm_29_p72
  have hI23 : iv_A (lf_up s.1 31 1 0) s.2.2 := iv_w31_1 hI (by omega)
  have fr24 : lf_fq [31, 33, 35, 36, 37, 38, 39, 40, 41, 42, 43, 44, 45, 46, 47, 48, 49, 50, 51, 52, 53, 54, 55, 56, 57, 58, 59, 60, 61, 62] 1000000 false s.1 s.2.2 (lf_up s.1 31 1 0) s.2.2 := lf_fq_up (lf_fq_rf) rfl (fun h => absurd h (by decide))
  have b25 : (-2147483648) ≤ s.1 31 2 ∧ s.1 31 2 ≤ 2147483647 := (show (-2147483648) ≤ (lf_up s.1 31 1 0) 31 2 ∧ (lf_up s.1 31 1 0) 31 2 ≤ 2147483647 from iv_full hI23)
  have b26 : (lf_up s.1 31 1 0) 31 2 = s.1 31 2 := lf_up_i (by omega)
  refine ⟨(show lf_R (s.1 31 2) from lf_Rof (by omega)), ?_⟩
  refine ⟨fun c27 => ?_, fun c27 => ?_⟩
  · skip
    replace c27 : s.1 31 2 ≠ 0 := c27
    exact hQ false (lf_up s.1 31 1 0, s.2.1, s.2.2) hI23 fr24
  · skip
    replace c27 : ¬ (s.1 31 2 ≠ 0) := c27
    exact hQ true (lf_up s.1 31 1 0, s.2.1, s.2.2) hI23 fr24
theorem sm_29_p41 {X41 : Int → lf_Z → Prop} {Q : Bool → lf_Z → Prop} {x2 : Int} {s : lf_Z} (hQ : ∀ (z : Bool) (s' : lf_Z), iv_A s'.1 s'.2.2 → lf_fq [31, 33, 35, 36, 37, 38, 39, 40, 41, 42, 43, 44, 45, 46, 47, 48, 49, 50, 51, 52, 53, 54, 55, 56, 57, 58, 59, 60, 61, 62] 1000000 false s.1 s.2.2 s'.1 s'.2.2 → Q z s') {M41 : Nat} (hX41 : ∀ (x2 : Int) (s' : lf_Z), iv_A s'.1 s'.2.2 → lf_fq [31, 33, 35, 36, 37, 38, 39, 40, 41, 42, 43, 44, 45, 46, 47, 48, 49, 50, 51, 52, 53, 54, 55, 56, 57, 58, 59, 60, 61, 62] 1000000 false s.1 s.2.2 s'.1 s'.2.2 → s'.2.2 2 ≠ none → 0 ≤ x2 ∧ x2 ≤ 301 → (301 - x2).toNat < M41 → X41 x2 s') (hM41 : (301 - x2).toNat ≤ M41) (hI : iv_A s.1 s.2.2) (n2 : s.2.2 2 ≠ none) (bx2 : 0 ≤ x2 ∧ x2 ≤ 301) : fm_29_p41 Q X41 x2 s := by
  unfold fm_29_p41
  refine ⟨(show lf_R x2 from lf_Rof (by omega)), ?_⟩
  refine ⟨fun c22 => ?_, fun c22 => ?_⟩
  · skip
    replace c22 : 300 < x2 := c22
    exact sm_29_p72 hQ hI n2
  · skip
    replace c22 : ¬ (300 < x2) := c22
    have b28 : 0 ≤ s.1 31 8 ∧ s.1 31 8 ≤ 300 := iv_r31_8 hI
    refine ⟨(show lf_R (s.1 31 8) from lf_Rof (by omega)), ?_⟩
    refine ⟨fun c29 => ?_, fun c29 => ?_⟩
    · skip
      replace c29 : s.1 31 8 = 0 := c29
      exact sm_29_p72 hQ hI n2
    · skip
      replace c29 : ¬ (s.1 31 8 = 0) := c29
      have b30 : (-2147483648) ≤ s.1 31 2 ∧ s.1 31 2 ≤ 2147483647 := iv_full hI
      refine ⟨(show lf_R (s.1 31 2) from lf_Rof (by omega)), ?_⟩
      refine ⟨fun c31 => ?_, fun c31 => ?_⟩
      · skip
        replace c31 : s.1 31 2 ≠ 0 := c31
        exact sm_29_p72 hQ hI n2
      · skip
        replace c31 : ¬ (s.1 31 2 ≠ 0) := c31
        refine sm_38 hI n2 (fun s28 hI33 fr32 => ?_)
        have fr35 : lf_fq [31, 33, 35, 36, 37, 38, 39, 40, 41, 42, 43, 44, 45, 46, 47, 48, 49, 50, 51, 52, 53, 54, 55, 56, 57, 58, 59, 60, 61, 62] 1000000 false s.1 s.2.2 s28.1 s28.2.2 := lf_fq_tr (lf_fq_rf) (lf_fq_wk fr32 rfl (by decide) (by decide))
        have n36 : s28.2.2 2 ≠ none := lf_fq_n2 fr32 rfl n2
        exact hX41 (x2 + 1) s28 hI33 fr35 n36 (show (0 : Int) ≤ x2 + 1 ∧ x2 + 1 ≤ (301 : Int) from by omega) (show (301 - (x2 + 1)).toNat < M41 from by omega)
theorem sm_29_p41L {Q : Bool → lf_Z → Prop} {x2 : Int} {s : lf_Z} (hQ : ∀ (z : Bool) (s' : lf_Z), iv_A s'.1 s'.2.2 → lf_fq [31, 33, 35, 36, 37, 38, 39, 40, 41, 42, 43, 44, 45, 46, 47, 48, 49, 50, 51, 52, 53, 54, 55, 56, 57, 58, 59, 60, 61, 62] 1000000 false s.1 s.2.2 s'.1 s'.2.2 → Q z s') (hI : iv_A s.1 s.2.2) (n2 : s.2.2 2 ≠ none) (bx2 : 0 ≤ x2 ∧ x2 ≤ 301) : fm_29_p41L Q x2 s := by
  intro X41 hX
  have key : ∀ (m9 : Nat) (x2 : Int) (s' : lf_Z), iv_A s'.1 s'.2.2 → lf_fq [31, 33, 35, 36, 37, 38, 39, 40, 41, 42, 43, 44, 45, 46, 47, 48, 49, 50, 51, 52, 53, 54, 55, 56, 57, 58, 59, 60, 61, 62] 1000000 false s.1 s.2.2 s'.1 s'.2.2 → s'.2.2 2 ≠ none → 0 ≤ x2 ∧ x2 ≤ 301 → (301 - x2).toNat < m9 → X41 x2 s' := by
    intro m9
    induction m9 with
    | zero => intro x2 s' _ _ n2 bx2 h9; exact absurd h9 (Nat.not_lt_zero _)
    | succ m9 ih => intro x2 s' i7 f7 n2 bx2 h9; exact hX _ _ (sm_29_p41 (fun r9 t9 i9 f9 => hQ r9 t9 i9 (lf_fq_tr f7 f9))   (fun x2' t8 i8 f8 n2' bx2' h8 => ih x2' t8 i8 (lf_fq_tr f7 f8) n2' bx2' (by omega)) (Nat.le_refl _)  i7 n2 bx2  )
  exact key _ _ s hI lf_fq_rf n2 bx2 (Nat.lt_succ_self _)
theorem sm_29 {t1 : Nat} {Q : Bool → lf_Z → Prop} {s : lf_Z} (htt1 : t1 < 4) (hI : iv_A s.1 s.2.2) (hQ : ∀ (z : Bool) (s' : lf_Z), iv_A s'.1 s'.2.2 → lf_fq [31, 33, 35, 36, 37, 38, 39, 40, 41, 42, 43, 44, 45, 46, 47, 48, 49, 50, 51, 52, 53, 54, 55, 56, 57, 58, 59, 60, 61, 62] 1000000 false s.1 s.2.2 s'.1 s'.2.2 → Q z s') : fm_29 t1 Q s := by
  unfold fm_29
  have hI1 : iv_A s.1 (lf_ur s.2.2 2 (some t1)) := iv_ut2 hI htt1
  have fr2 : lf_fq [31, 33, 35, 36, 37, 38, 39, 40, 41, 42, 43, 44, 45, 46, 47, 48, 49, 50, 51, 52, 53, 54, 55, 56, 57, 58, 59, 60, 61, 62] 1000000 false s.1 s.2.2 s.1 (lf_ur s.2.2 2 (some t1)) := lf_fq_pp (lf_fq_rf)
  have n3 : (lf_ur s.2.2 2 (some t1)) 2 ≠ none := lf_ur2
  refine ⟨fun et21 => ?_, fun t21 et21 => ?_⟩
  · skip
    exact absurd et21 n3
  · have htt21 : t21 < 4 := iv_t2 hI1 et21
    refine ⟨htt21, ?_⟩
    refine sm_30 htt21 hI1 (fun s22 hI5 fr4 => ?_)
    have fr7 : lf_fq [31, 33, 35, 36, 37, 38, 39, 40, 41, 42, 43, 44, 45, 46, 47, 48, 49, 50, 51, 52, 53, 54, 55, 56, 57, 58, 59, 60, 61, 62] 1000000 false s.1 s.2.2 s22.1 s22.2.2 := lf_fq_tr fr2 (lf_fq_wk fr4 rfl (by decide) (by decide))
    have n8 : s22.2.2 2 ≠ none := lf_fq_n2 fr4 rfl n3
    have hI9 : iv_A (lf_up s22.1 31 2 0) s22.2.2 := iv_w31_2 hI5 (by omega)
    have fr10 : lf_fq [31, 33, 35, 36, 37, 38, 39, 40, 41, 42, 43, 44, 45, 46, 47, 48, 49, 50, 51, 52, 53, 54, 55, 56, 57, 58, 59, 60, 61, 62] 1000000 false s.1 s.2.2 (lf_up s22.1 31 2 0) s22.2.2 := lf_fq_up fr7 rfl (fun h => absurd h (by decide))
    have hI11 : iv_A (lf_up (lf_up s22.1 31 2 0) 31 3 (-1)) s22.2.2 := iv_w31_3 hI9 (by omega)
    have fr12 : lf_fq [31, 33, 35, 36, 37, 38, 39, 40, 41, 42, 43, 44, 45, 46, 47, 48, 49, 50, 51, 52, 53, 54, 55, 56, 57, 58, 59, 60, 61, 62] 1000000 false s.1 s.2.2 (lf_up (lf_up s22.1 31 2 0) 31 3 (-1)) s22.2.2 := lf_fq_up fr10 rfl (fun h => absurd h (by decide))
    have hI13 : iv_A (lf_fl (lf_up (lf_up s22.1 31 2 0) 31 3 (-1)) 33 26 (-1)) s22.2.2 := iv_fl33 hI11 (by omega)
    have fr14 : lf_fq [31, 33, 35, 36, 37, 38, 39, 40, 41, 42, 43, 44, 45, 46, 47, 48, 49, 50, 51, 52, 53, 54, 55, 56, 57, 58, 59, 60, 61, 62] 1000000 false s.1 s.2.2 (lf_fl (lf_up (lf_up s22.1 31 2 0) 31 3 (-1)) 33 26 (-1)) s22.2.2 := lf_fq_fl fr12 rfl (by decide)
    have hI15 : iv_A (lf_up (lf_fl (lf_up (lf_up s22.1 31 2 0) 31 3 (-1)) 33 26 (-1)) 31 7 0) s22.2.2 := iv_w31_7 hI13 (by omega)
    have fr16 : lf_fq [31, 33, 35, 36, 37, 38, 39, 40, 41, 42, 43, 44, 45, 46, 47, 48, 49, 50, 51, 52, 53, 54, 55, 56, 57, 58, 59, 60, 61, 62] 1000000 false s.1 s.2.2 (lf_up (lf_fl (lf_up (lf_up s22.1 31 2 0) 31 3 (-1)) 33 26 (-1)) 31 7 0) s22.2.2 := lf_fq_up fr14 rfl (fun h => absurd h (by decide))
    refine sm_31 hI15 (fun s23 hI18 fr17 => ?_)
    have fr20 : lf_fq [31, 33, 35, 36, 37, 38, 39, 40, 41, 42, 43, 44, 45, 46, 47, 48, 49, 50, 51, 52, 53, 54, 55, 56, 57, 58, 59, 60, 61, 62] 1000000 false s.1 s.2.2 s23.1 s23.2.2 := lf_fq_tr fr16 (lf_fq_wk fr17 rfl (by decide) (by decide))
    have n21 : s23.2.2 2 ≠ none := lf_fq_n2 fr17 rfl n8
    exact sm_29_p41L (fun r9 t9 i9 f9 => hQ r9 t9 i9 (lf_fq_tr fr20 f9)) hI18 n21 (show (0 : Int) ≤ 0 ∧ 0 ≤ (301 : Int) from by omega)
-- fm_28 ElevenBullocks.text 0
theorem sm_28 {Q : Int → lf_Z → Prop} {s : lf_Z} (hI : iv_A s.1 s.2.2) (hQ : ∀ (r : Int) (s' : lf_Z), iv_A s'.1 s'.2.2 → lf_fq [0, 31, 33, 35, 36, 37, 38, 39, 40, 41, 42, 43, 44, 45, 46, 47, 48, 49, 50, 51, 52, 53, 54, 55, 56, 57, 58, 59, 60, 61, 62] 1000000 false s.1 s.2.2 s'.1 s'.2.2 → ((-1) ≤ r ∧ r ≤ 3) → Q r s') : fm_28 Q s := by
  unfold fm_28
  have b1 : 0 ≤ s.1 0 11 ∧ s.1 0 11 ≤ 4 := iv_r0_11 hI
  refine ⟨(show lf_R (s.1 0 11) from lf_Rof (by omega)), ?_⟩
  refine ⟨fun c2 => ?_, fun c2 => ?_⟩
  · skip
    replace c2 : s.1 0 11 < 4 := c2
    refine ⟨(show (0 : Int) ≤ s.1 0 11 ∧ s.1 0 11 < (4 : Int) from by omega), ?_⟩
    intro t23 et23
    have htt23 : t23 < 4 := by have e9 : t23 = (s.1 0 11).toNat := et23; omega
    refine sm_29 htt23 hI (fun z25 s24 hI4 fr3 => ?_)
    have fr6 : lf_fq [0, 31, 33, 35, 36, 37, 38, 39, 40, 41, 42, 43, 44, 45, 46, 47, 48, 49, 50, 51, 52, 53, 54, 55, 56, 57, 58, 59, 60, 61, 62] 1000000 false s.1 s.2.2 s24.1 s24.2.2 := lf_fq_tr (lf_fq_rf) (lf_fq_wk fr3 rfl (by decide) (by decide))
    refine ⟨fun c7 => ?_, fun c7 => ?_⟩
    · skip
      have b8 : 0 ≤ s24.1 0 11 ∧ s24.1 0 11 ≤ 4 := iv_r0_11 hI4
      have b9 : s24.1 0 11 = s.1 0 11 := congrFun (fr3.1 0 rfl) _
      have hI10 : iv_A (lf_up s24.1 0 11 ((s24.1 0 11) + 1)) s24.2.2 := iv_w0_11 hI4 (by omega)
      have fr11 : lf_fq [0, 31, 33, 35, 36, 37, 38, 39, 40, 41, 42, 43, 44, 45, 46, 47, 48, 49, 50, 51, 52, 53, 54, 55, 56, 57, 58, 59, 60, 61, 62] 1000000 false s.1 s.2.2 (lf_up s24.1 0 11 ((s24.1 0 11) + 1)) s24.2.2 := lf_fq_up fr6 rfl (fun h => absurd h (by decide))
      exact hQ (((s24.1 0 11) + 1) - 1) (lf_up s24.1 0 11 ((s24.1 0 11) + 1), s24.2.1, s24.2.2) hI10 fr11 (show (-1 : Int) ≤ ((s24.1 0 11) + 1) - 1 ∧ ((s24.1 0 11) + 1) - 1 ≤ (3 : Int) from by omega)
    · skip
      exact hQ (-1) s24 hI4 fr6 (show (-1 : Int) ≤ (-1) ∧ (-1) ≤ (3 : Int) from by omega)
  · skip
    replace c2 : ¬ (s.1 0 11 < 4) := c2
    exact hQ (-1) s hI (lf_fq_rf) (show (-1 : Int) ≤ (-1) ∧ (-1) ≤ (3 : Int) from by omega)
-- fm_198 Model.byteAt 95 i
theorem sm_198 {a1 : Int} {Q : Int → lf_Z → Prop} {s : lf_Z} (hI : iv_A s.1 s.2.2) (ba1 : 0 ≤ a1 ∧ a1 ≤ 300) (hQ : ∀ (r : Int), (((-1) ≤ r ∧ r ≤ 255) ∧ ((r = -1 ∧ s.1 95 4 ≤ a1) ∨ (a1 < s.1 95 4 ∧ r = s.1 99 a1))) → Q r s) : fm_198 a1 Q s := by
  unfold fm_198
  have b1 : 0 ≤ s.1 95 4 ∧ s.1 95 4 ≤ 300 := iv_r95_4 hI
  refine ⟨(show lf_R a1 from lf_Rof (by omega)), ?_⟩
  refine ⟨(show lf_R (s.1 95 4) from lf_Rof (by omega)), ?_⟩
  refine ⟨fun c2 => ?_, fun c2 => ?_⟩
  · skip
    replace c2 : s.1 95 4 ≤ a1 := c2
    exact hQ (-1) ⟨(show (-1 : Int) ≤ (-1) ∧ (-1) ≤ (255 : Int) from by omega), (show ((-1) = -1 ∧ s.1 95 4 ≤ a1) ∨ (a1 < s.1 95 4 ∧ (-1) = s.1 99 a1) from by omega)⟩
  · skip
    replace c2 : ¬ (s.1 95 4 ≤ a1) := c2
    refine ⟨(show (0 : Int) ≤ a1 ∧ a1 < (300 : Int) from by omega), ?_⟩
    have b3 : 0 ≤ s.1 99 a1 ∧ s.1 99 a1 ≤ 255 := iv_r99 hI _
    exact hQ (s.1 99 a1) ⟨(show (-1 : Int) ≤ s.1 99 a1 ∧ s.1 99 a1 ≤ (255 : Int) from by omega), (show (s.1 99 a1 = -1 ∧ s.1 95 4 ≤ a1) ∨ (a1 < s.1 95 4 ∧ s.1 99 a1 = s.1 99 a1) from by omega)⟩
-- fm_199 Model.isFigure i
theorem sm_199 {a0 : Int} {Q : Bool → lf_Z → Prop} {s : lf_Z} (hI : iv_A s.1 s.2.2) (ba0 : (-1) ≤ a0 ∧ a0 ≤ 255) (hQ : ∀ (z : Bool), ((z = true → (48 ≤ a0 ∧ a0 ≤ 57)) ∧ (z = false → ¬ (48 ≤ a0 ∧ a0 ≤ 57))) → Q z s) : fm_199 a0 Q s := by
  unfold fm_199
  refine ⟨(show lf_R a0 from lf_Rof (by omega)), ?_⟩
  refine ⟨fun c1 => ?_, fun c1 => ?_⟩
  · skip
    replace c1 : a0 < 48 := c1
    exact hQ false (lf_pf (by omega))
  · skip
    replace c1 : ¬ (a0 < 48) := c1
    refine ⟨fun c2 => ?_, fun c2 => ?_⟩
    · skip
      replace c2 : 57 < a0 := c2
      exact hQ false (lf_pf (by omega))
    · skip
      replace c2 : ¬ (57 < a0) := c2
      exact hQ true (lf_pt (by omega))
-- fm_200 Model.isLetterByte i
theorem sm_200_p12 {Q : Bool → lf_Z → Prop} {x0 : Int} {s : lf_Z} (hQ : ∀ (z : Bool), ((z = true → ((97 ≤ x0 ∧ x0 ≤ 122) ∨ 65 ≤ x0 ∧ x0 ≤ 90)) ∧ (z = false → ¬ ((97 ≤ x0 ∧ x0 ≤ 122) ∨ 65 ≤ x0 ∧ x0 ≤ 90))) → Q z s) (hI : iv_A s.1 s.2.2) (bx0 : (-1) ≤ x0 ∧ x0 ≤ 255) (kv0 : x0 < 97 ∨ 122 < x0) : fm_200_p12 Q x0 s := by
  unfold fm_200_p12
  refine ⟨(show lf_R x0 from lf_Rof (by omega)), ?_⟩
  refine ⟨fun c2 => ?_, fun c2 => ?_⟩
  · skip
    replace c2 : x0 < 65 := c2
    exact hQ false (lf_pf (by omega))
  · skip
    replace c2 : ¬ (x0 < 65) := c2
    refine ⟨fun c3 => ?_, fun c3 => ?_⟩
    · skip
      replace c3 : 90 < x0 := c3
      exact hQ false (lf_pf (by omega))
    · skip
      replace c3 : ¬ (90 < x0) := c3
      exact hQ true (lf_pt (by omega))
theorem sm_200 {a0 : Int} {Q : Bool → lf_Z → Prop} {s : lf_Z} (hI : iv_A s.1 s.2.2) (ba0 : (-1) ≤ a0 ∧ a0 ≤ 255) (hQ : ∀ (z : Bool), ((z = true → ((97 ≤ a0 ∧ a0 ≤ 122) ∨ 65 ≤ a0 ∧ a0 ≤ 90)) ∧ (z = false → ¬ ((97 ≤ a0 ∧ a0 ≤ 122) ∨ 65 ≤ a0 ∧ a0 ≤ 90))) → Q z s) : fm_200 a0 Q s := by
  unfold fm_200
  refine ⟨(show lf_R a0 from lf_Rof (by omega)), ?_⟩
  refine ⟨fun c1 => ?_, fun c1 => ?_⟩
  · skip
    replace c1 : a0 < 97 := c1
    exact sm_200_p12 hQ hI (show (-1 : Int) ≤ a0 ∧ a0 ≤ (255 : Int) from by omega) (show a0 < 97 ∨ 122 < a0 from by omega)
  · skip
    replace c1 : ¬ (a0 < 97) := c1
    refine ⟨fun c4 => ?_, fun c4 => ?_⟩
    · skip
      replace c4 : a0 ≤ 122 := c4
      exact hQ true (lf_pt (by omega))
    · skip
      replace c4 : ¬ (a0 ≤ 122) := c4
      exact sm_200_p12 hQ hI (show (-1 : Int) ≤ a0 ∧ a0 ≤ (255 : Int) from by omega) (show a0 < 97 ∨ 122 < a0 from by omega)
-- fm_201 Model.isSign i
theorem sm_201 {a0 : Int} {Q : Bool → lf_Z → Prop} {s : lf_Z} (hI : iv_A s.1 s.2.2) (ba0 : 0 ≤ a0 ∧ a0 ≤ 255) (hQ : ∀ (z : Bool), Q z s) : fm_201 a0 Q s := by
  unfold fm_201
  refine ⟨(show lf_R a0 from lf_Rof (by omega)), ?_⟩
  refine ⟨fun c1 => ?_, fun c1 => ?_, fun c1 => ?_, fun c1 => ?_, fun c1 => ?_, fun c1 => ?_, fun c1 => ?_, fun c1 => ?_, fun c1 => ?_, fun c1 => ?_, fun c1 => ?_, fun c1 => ?_, fun c1 => ?_, fun c1 => ?_, fun c1 => ?_, fun c1 => ?_, fun c1 => ?_, fun c1 => ?_, fun c1 => ?_, fun c1 => ?_, fun c1 => ?_, fun c1 => ?_, fun c1 => ?_, fun c1 => ?_, fun c1 => ?_, fun c1 => ?_, fun c1 => ?_, fun c1 => ?_, fun c1 => ?_⟩
  · replace c1 : a0 < 35 ∨ 62 < a0 := c1
    exact hQ false
  · replace c1 : a0 = 35 := c1
    exact hQ true
  · replace c1 : a0 = 36 := c1
    exact hQ false
  · replace c1 : a0 = 37 := c1
    exact hQ false
  · replace c1 : a0 = 38 := c1
    exact hQ false
  · replace c1 : a0 = 39 := c1
    exact hQ false
  · replace c1 : a0 = 40 := c1
    exact hQ true
  · replace c1 : a0 = 41 := c1
    exact hQ true
  · replace c1 : a0 = 42 := c1
    exact hQ true
  · replace c1 : a0 = 43 := c1
    exact hQ true
  · replace c1 : a0 = 44 := c1
    exact hQ false
  · replace c1 : a0 = 45 := c1
    exact hQ true
  · replace c1 : a0 = 46 := c1
    exact hQ false
  · replace c1 : a0 = 47 := c1
    exact hQ true
  · replace c1 : a0 = 48 := c1
    exact hQ false
  · replace c1 : a0 = 49 := c1
    exact hQ false
  · replace c1 : a0 = 50 := c1
    exact hQ false
  · replace c1 : a0 = 51 := c1
    exact hQ false
  · replace c1 : a0 = 52 := c1
    exact hQ false
  · replace c1 : a0 = 53 := c1
    exact hQ false
  · replace c1 : a0 = 54 := c1
    exact hQ false
  · replace c1 : a0 = 55 := c1
    exact hQ false
  · replace c1 : a0 = 56 := c1
    exact hQ false
  · replace c1 : a0 = 57 := c1
    exact hQ false
  · replace c1 : a0 = 58 := c1
    exact hQ false
  · replace c1 : a0 = 59 := c1
    exact hQ true
  · replace c1 : a0 = 60 := c1
    exact hQ true
  · replace c1 : a0 = 61 := c1
    exact hQ true
  · replace c1 : a0 = 62 := c1
    exact hQ true
-- fm_197 Model.nextToken 95
theorem sm_197_p26 {X0 : lf_Z → Prop} {Q : lf_Z → Prop} {s : lf_Z} {s0 : lf_Z} (hQ : ∀  (s' : lf_Z), iv_A s'.1 s'.2.2 → lf_fq [95] 1000000 true s.1 s.2.2 s'.1 s'.2.2 → (s0.1 95 7 ≤ s'.1 95 8 ∧ (s'.1 95 9 = 0 ∨ s'.1 95 8 < s'.1 95 7)) → (s'.1 95 12 = s0.1 95 12 ∧ s'.1 95 13 = s0.1 95 13 ∧ s'.1 95 19 = s0.1 95 19 ∧ s'.1 95 20 = s0.1 95 20 ∧ s'.1 95 21 = s0.1 95 21 ∧ s'.1 95 22 = s0.1 95 22 ∧ s'.1 95 23 = s0.1 95 23) → Q  s') {M0 : Nat} (hX0 : ∀ (s' : lf_Z), iv_A s'.1 s'.2.2 → lf_fq [95] 1000000 true s.1 s.2.2 s'.1 s'.2.2 → (s0.1 95 7 ≤ s'.1 95 7) → (s'.1 95 12 = s0.1 95 12 ∧ s'.1 95 13 = s0.1 95 13 ∧ s'.1 95 19 = s0.1 95 19 ∧ s'.1 95 20 = s0.1 95 20 ∧ s'.1 95 21 = s0.1 95 21 ∧ s'.1 95 22 = s0.1 95 22 ∧ s'.1 95 23 = s0.1 95 23) → (300 - s'.1 95 7).toNat < M0 → X0 s') (hM0 : (300 - s.1 95 7).toNat ≤ M0) (hI : iv_A s.1 s.2.2) (kv0 : s.1 95 7 < 300) (kv1 : s0.1 95 7 ≤ s.1 95 7) (kv2 : s.1 95 12 = s0.1 95 12 ∧ s.1 95 13 = s0.1 95 13 ∧ s.1 95 19 = s0.1 95 19 ∧ s.1 95 20 = s0.1 95 20 ∧ s.1 95 21 = s0.1 95 21 ∧ s.1 95 22 = s0.1 95 22 ∧ s.1 95 23 = s0.1 95 23) : fm_197_p26 X0 Q s := by
  unfold fm_197_p26
  have b20 : 0 ≤ s.1 95 7 ∧ s.1 95 7 ≤ 300 := iv_r95_7 hI
  have hI21 : iv_A (lf_up s.1 95 7 ((s.1 95 7) + 1)) s.2.2 := iv_w95_7 hI (by omega)
  have fr22 : lf_fq [95] 1000000 true s.1 s.2.2 (lf_up s.1 95 7 ((s.1 95 7) + 1)) s.2.2 := lf_fq_up (lf_fq_rf) rfl (fun h => absurd h (by decide))
  have b23 : 0 ≤ s.1 95 12 ∧ s.1 95 12 ≤ 2115 := (show 0 ≤ (lf_up s.1 95 7 ((s.1 95 7) + 1)) 95 12 ∧ (lf_up s.1 95 7 ((s.1 95 7) + 1)) 95 12 ≤ 2115 from iv_r95_12 hI21)
  have b24 : (lf_up s.1 95 7 ((s.1 95 7) + 1)) 95 12 = s.1 95 12 := lf_up_i (by omega)
  have b25 : 0 ≤ s.1 95 13 ∧ s.1 95 13 ≤ 304 := (show 0 ≤ (lf_up s.1 95 7 ((s.1 95 7) + 1)) 95 13 ∧ (lf_up s.1 95 7 ((s.1 95 7) + 1)) 95 13 ≤ 304 from iv_r95_13 hI21)
  have b26 : (lf_up s.1 95 7 ((s.1 95 7) + 1)) 95 13 = s.1 95 13 := lf_up_i (by omega)
  have b27 : 0 ≤ s.1 95 19 ∧ s.1 95 19 ≤ 160 := (show 0 ≤ (lf_up s.1 95 7 ((s.1 95 7) + 1)) 95 19 ∧ (lf_up s.1 95 7 ((s.1 95 7) + 1)) 95 19 ≤ 160 from iv_r95_19 hI21)
  have b28 : (lf_up s.1 95 7 ((s.1 95 7) + 1)) 95 19 = s.1 95 19 := lf_up_i (by omega)
  have b29 : 0 ≤ s.1 95 20 ∧ s.1 95 20 ≤ 8 := (show 0 ≤ (lf_up s.1 95 7 ((s.1 95 7) + 1)) 95 20 ∧ (lf_up s.1 95 7 ((s.1 95 7) + 1)) 95 20 ≤ 8 from iv_r95_20 hI21)
  have b30 : (lf_up s.1 95 7 ((s.1 95 7) + 1)) 95 20 = s.1 95 20 := lf_up_i (by omega)
  have b31 : 0 ≤ s.1 95 21 ∧ s.1 95 21 ≤ 8 := (show 0 ≤ (lf_up s.1 95 7 ((s.1 95 7) + 1)) 95 21 ∧ (lf_up s.1 95 7 ((s.1 95 7) + 1)) 95 21 ≤ 8 from iv_r95_21 hI21)
  have b32 : (lf_up s.1 95 7 ((s.1 95 7) + 1)) 95 21 = s.1 95 21 := lf_up_i (by omega)
  have b33 : 0 ≤ s.1 95 22 ∧ s.1 95 22 ≤ 80 := (show 0 ≤ (lf_up s.1 95 7 ((s.1 95 7) + 1)) 95 22 ∧ (lf_up s.1 95 7 ((s.1 95 7) + 1)) 95 22 ≤ 80 from iv_r95_22 hI21)
  have b34 : (lf_up s.1 95 7 ((s.1 95 7) + 1)) 95 22 = s.1 95 22 := lf_up_i (by omega)
  have b35 : 0 ≤ s.1 95 23 ∧ s.1 95 23 ≤ 1 := (show 0 ≤ (lf_up s.1 95 7 ((s.1 95 7) + 1)) 95 23 ∧ (lf_up s.1 95 7 ((s.1 95 7) + 1)) 95 23 ≤ 1 from iv_r95_23 hI21)
  have b36 : (lf_up s.1 95 7 ((s.1 95 7) + 1)) 95 23 = s.1 95 23 := lf_up_i (by omega)
  exact hX0  (lf_up s.1 95 7 ((s.1 95 7) + 1), s.2.1, s.2.2) hI21 fr22 (show s0.1 95 7 ≤ ((s.1 95 7) + 1) from by omega) (show (s.1 95 12) = s0.1 95 12 ∧ (s.1 95 13) = s0.1 95 13 ∧ (s.1 95 19) = s0.1 95 19 ∧ (s.1 95 20) = s0.1 95 20 ∧ (s.1 95 21) = s0.1 95 21 ∧ (s.1 95 22) = s0.1 95 22 ∧ (s.1 95 23) = s0.1 95 23 from by omega) (show (300 - ((s.1 95 7) + 1)).toNat < M0 from by omega)
theorem sm_197_p297 {Q : lf_Z → Prop} {y1 : Int} {s : lf_Z} {s0 : lf_Z} (hQ : ∀  (s' : lf_Z), iv_A s'.1 s'.2.2 → lf_fq [95] 1000000 true s.1 s.2.2 s'.1 s'.2.2 → (s0.1 95 7 ≤ s'.1 95 8 ∧ (s'.1 95 9 = 0 ∨ s'.1 95 8 < s'.1 95 7)) → (s'.1 95 12 = s0.1 95 12 ∧ s'.1 95 13 = s0.1 95 13 ∧ s'.1 95 19 = s0.1 95 19 ∧ s'.1 95 20 = s0.1 95 20 ∧ s'.1 95 21 = s0.1 95 21 ∧ s'.1 95 22 = s0.1 95 22 ∧ s'.1 95 23 = s0.1 95 23) → Q  s') (hI : iv_A s.1 s.2.2) (by1 : 4 ≤ y1 ∧ y1 ≤ 5) (kv0 : s.1 95 7 < 300) (kv1 : s0.1 95 7 ≤ s.1 95 8 ∧ s.1 95 8 < s.1 95 7) (kv2 : s.1 95 12 = s0.1 95 12 ∧ s.1 95 13 = s0.1 95 13 ∧ s.1 95 19 = s0.1 95 19 ∧ s.1 95 20 = s0.1 95 20 ∧ s.1 95 21 = s0.1 95 21 ∧ s.1 95 22 = s0.1 95 22 ∧ s.1 95 23 = s0.1 95 23) : fm_197_p297 Q y1 s := by
  unfold fm_197_p297
  have hI111 : iv_A (lf_up s.1 95 9 y1) s.2.2 := iv_w95_9 hI (by omega)
  have fr112 : lf_fq [95] 1000000 true s.1 s.2.2 (lf_up s.1 95 9 y1) s.2.2 := lf_fq_up (lf_fq_rf) rfl (fun h => absurd h (by decide))
  have b113 : 0 ≤ s.1 95 7 ∧ s.1 95 7 ≤ 300 := (show 0 ≤ (lf_up s.1 95 9 y1) 95 7 ∧ (lf_up s.1 95 9 y1) 95 7 ≤ 300 from iv_r95_7 hI111)
  have b114 : (lf_up s.1 95 9 y1) 95 7 = s.1 95 7 := lf_up_i (by omega)
  have hI115 : iv_A (lf_up (lf_up s.1 95 9 y1) 95 7 ((s.1 95 7) + 1)) s.2.2 := iv_w95_7 hI111 (by omega)
  have fr116 : lf_fq [95] 1000000 true s.1 s.2.2 (lf_up (lf_up s.1 95 9 y1) 95 7 ((s.1 95 7) + 1)) s.2.2 := lf_fq_up fr112 rfl (fun h => absurd h (by decide))
  exact hQ (lf_up (lf_up s.1 95 9 y1) 95 7 ((s.1 95 7) + 1), s.2.1, s.2.2) hI115 fr116 (show s0.1 95 7 ≤ (s.1 95 8) ∧ (y1 = 0 ∨ (s.1 95 8) < ((s.1 95 7) + 1)) from by omega) (show (s.1 95 12) = s0.1 95 12 ∧ (s.1 95 13) = s0.1 95 13 ∧ (s.1 95 19) = s0.1 95 19 ∧ (s.1 95 20) = s0.1 95 20 ∧ (s.1 95 21) = s0.1 95 21 ∧ (s.1 95 22) = s0.1 95 22 ∧ (s.1 95 23) = s0.1 95 23 from by omega)
theorem sm_197_p272 {Q : lf_Z → Prop} {x1 : Int} {s : lf_Z} {s0 : lf_Z} (hQ : ∀  (s' : lf_Z), iv_A s'.1 s'.2.2 → lf_fq [95] 1000000 true s.1 s.2.2 s'.1 s'.2.2 → (s0.1 95 7 ≤ s'.1 95 8 ∧ (s'.1 95 9 = 0 ∨ s'.1 95 8 < s'.1 95 7)) → (s'.1 95 12 = s0.1 95 12 ∧ s'.1 95 13 = s0.1 95 13 ∧ s'.1 95 19 = s0.1 95 19 ∧ s'.1 95 20 = s0.1 95 20 ∧ s'.1 95 21 = s0.1 95 21 ∧ s'.1 95 22 = s0.1 95 22 ∧ s'.1 95 23 = s0.1 95 23) → Q  s') (hI : iv_A s.1 s.2.2) (bx1 : 60 ≤ x1 ∧ x1 ≤ 62) (kv0 : s0.1 95 7 ≤ s.1 95 8 ∧ s.1 95 8 < s.1 95 7) (kv1 : s.1 95 12 = s0.1 95 12 ∧ s.1 95 13 = s0.1 95 13 ∧ s.1 95 19 = s0.1 95 19 ∧ s.1 95 20 = s0.1 95 20 ∧ s.1 95 21 = s0.1 95 21 ∧ s.1 95 22 = s0.1 95 22 ∧ s.1 95 23 = s0.1 95 23) : fm_197_p272 Q x1 s := by
  unfold fm_197_p272
  have b98 : 0 ≤ s.1 95 7 ∧ s.1 95 7 ≤ 300 := iv_r95_7 hI
  refine sm_198 hI (show (0 : Int) ≤ s.1 95 7 ∧ s.1 95 7 ≤ (300 : Int) from by omega) (fun r38 q99 => ?_)
  obtain ⟨q99, q99x⟩ := q99
  have b100 : 0 ≤ s.1 95 4 ∧ s.1 95 4 ≤ 300 := iv_r95_4 hI
  replace q99x : (r38 = -1 ∧ s.1 95 4 ≤ (s.1 95 7)) ∨ ((s.1 95 7) < s.1 95 4 ∧ r38 = s.1 99 (s.1 95 7)) := q99x
  refine ⟨(show lf_R r38 from lf_Rof (by omega)), ?_⟩
  refine ⟨fun c101 => ?_, fun c101 => ?_⟩
  · skip
    replace c101 : r38 ≠ 61 := c101
    exact hQ s hI (lf_fq_rf) (show s0.1 95 7 ≤ (s.1 95 8) ∧ ((s.1 95 9) = 0 ∨ (s.1 95 8) < (s.1 95 7)) from by omega) (show (s.1 95 12) = s0.1 95 12 ∧ (s.1 95 13) = s0.1 95 13 ∧ (s.1 95 19) = s0.1 95 19 ∧ (s.1 95 20) = s0.1 95 20 ∧ (s.1 95 21) = s0.1 95 21 ∧ (s.1 95 22) = s0.1 95 22 ∧ (s.1 95 23) = s0.1 95 23 from by omega)
  · skip
    replace c101 : ¬ (r38 ≠ 61) := c101
    refine ⟨(show lf_R x1 from lf_Rof (by omega)), ?_⟩
    refine ⟨fun c102 => ?_, fun c102 => ?_⟩
    · skip
      replace c102 : x1 ≠ 60 := c102
      have b103 : 0 ≤ s.1 95 8 ∧ s.1 95 8 ≤ 300 := iv_r95_8 hI
      have b104 : 0 ≤ s.1 95 12 ∧ s.1 95 12 ≤ 2115 := iv_r95_12 hI
      have b105 : 0 ≤ s.1 95 13 ∧ s.1 95 13 ≤ 304 := iv_r95_13 hI
      have b106 : 0 ≤ s.1 95 19 ∧ s.1 95 19 ≤ 160 := iv_r95_19 hI
      have b107 : 0 ≤ s.1 95 20 ∧ s.1 95 20 ≤ 8 := iv_r95_20 hI
      have b108 : 0 ≤ s.1 95 21 ∧ s.1 95 21 ≤ 8 := iv_r95_21 hI
      have b109 : 0 ≤ s.1 95 22 ∧ s.1 95 22 ≤ 80 := iv_r95_22 hI
      have b110 : 0 ≤ s.1 95 23 ∧ s.1 95 23 ≤ 1 := iv_r95_23 hI
      exact sm_197_p297 (s0 := s0) hQ hI (show (4 : Int) ≤ 5 ∧ 5 ≤ (5 : Int) from by omega) (show (s.1 95 7) < 300 from by omega) (show s0.1 95 7 ≤ (s.1 95 8) ∧ (s.1 95 8) < (s.1 95 7) from by omega) (show (s.1 95 12) = s0.1 95 12 ∧ (s.1 95 13) = s0.1 95 13 ∧ (s.1 95 19) = s0.1 95 19 ∧ (s.1 95 20) = s0.1 95 20 ∧ (s.1 95 21) = s0.1 95 21 ∧ (s.1 95 22) = s0.1 95 22 ∧ (s.1 95 23) = s0.1 95 23 from by omega)
    · skip
      replace c102 : ¬ (x1 ≠ 60) := c102
      have b117 : 0 ≤ s.1 95 8 ∧ s.1 95 8 ≤ 300 := iv_r95_8 hI
      have b118 : 0 ≤ s.1 95 12 ∧ s.1 95 12 ≤ 2115 := iv_r95_12 hI
      have b119 : 0 ≤ s.1 95 13 ∧ s.1 95 13 ≤ 304 := iv_r95_13 hI
      have b120 : 0 ≤ s.1 95 19 ∧ s.1 95 19 ≤ 160 := iv_r95_19 hI
      have b121 : 0 ≤ s.1 95 20 ∧ s.1 95 20 ≤ 8 := iv_r95_20 hI
      have b122 : 0 ≤ s.1 95 21 ∧ s.1 95 21 ≤ 8 := iv_r95_21 hI
      have b123 : 0 ≤ s.1 95 22 ∧ s.1 95 22 ≤ 80 := iv_r95_22 hI
      have b124 : 0 ≤ s.1 95 23 ∧ s.1 95 23 ≤ 1 := iv_r95_23 hI
      exact sm_197_p297 (s0 := s0) hQ hI (show (4 : Int) ≤ 4 ∧ 4 ≤ (5 : Int) from by omega) (show (s.1 95 7) < 300 from by omega) (show s0.1 95 7 ≤ (s.1 95 8) ∧ (s.1 95 8) < (s.1 95 7) from by omega) (show (s.1 95 12) = s0.1 95 12 ∧ (s.1 95 13) = s0.1 95 13 ∧ (s.1 95 19) = s0.1 95 19 ∧ (s.1 95 20) = s0.1 95 20 ∧ (s.1 95 21) = s0.1 95 21 ∧ (s.1 95 22) = s0.1 95 22 ∧ (s.1 95 23) = s0.1 95 23 from by omega)
theorem sm_197_p247 {Q : lf_Z → Prop} {x1 : Int} {y1 : Int} {s : lf_Z} {s0 : lf_Z} (hQ : ∀  (s' : lf_Z), iv_A s'.1 s'.2.2 → lf_fq [95] 1000000 true s.1 s.2.2 s'.1 s'.2.2 → (s0.1 95 7 ≤ s'.1 95 8 ∧ (s'.1 95 9 = 0 ∨ s'.1 95 8 < s'.1 95 7)) → (s'.1 95 12 = s0.1 95 12 ∧ s'.1 95 13 = s0.1 95 13 ∧ s'.1 95 19 = s0.1 95 19 ∧ s'.1 95 20 = s0.1 95 20 ∧ s'.1 95 21 = s0.1 95 21 ∧ s'.1 95 22 = s0.1 95 22 ∧ s'.1 95 23 = s0.1 95 23) → Q  s') (hI : iv_A s.1 s.2.2) (bx1 : 0 ≤ x1 ∧ x1 ≤ 255) (by1 : 0 ≤ y1 ∧ y1 ≤ 255) (kv0 : s.1 95 7 < 300) (kv1 : s0.1 95 7 ≤ s.1 95 8 ∧ s.1 95 8 ≤ s.1 95 7) (kv2 : s.1 95 12 = s0.1 95 12 ∧ s.1 95 13 = s0.1 95 13 ∧ s.1 95 19 = s0.1 95 19 ∧ s.1 95 20 = s0.1 95 20 ∧ s.1 95 21 = s0.1 95 21 ∧ s.1 95 22 = s0.1 95 22 ∧ s.1 95 23 = s0.1 95 23) : fm_197_p247 Q x1 y1 s := by
  unfold fm_197_p247
  have hI67 : iv_A (lf_up s.1 95 9 y1) s.2.2 := iv_w95_9 hI (by omega)
  have fr68 : lf_fq [95] 1000000 true s.1 s.2.2 (lf_up s.1 95 9 y1) s.2.2 := lf_fq_up (lf_fq_rf) rfl (fun h => absurd h (by decide))
  have b69 : 0 ≤ s.1 95 7 ∧ s.1 95 7 ≤ 300 := (show 0 ≤ (lf_up s.1 95 9 y1) 95 7 ∧ (lf_up s.1 95 9 y1) 95 7 ≤ 300 from iv_r95_7 hI67)
  have b70 : (lf_up s.1 95 9 y1) 95 7 = s.1 95 7 := lf_up_i (by omega)
  have hI71 : iv_A (lf_up (lf_up s.1 95 9 y1) 95 7 ((s.1 95 7) + 1)) s.2.2 := iv_w95_7 hI67 (by omega)
  have fr72 : lf_fq [95] 1000000 true s.1 s.2.2 (lf_up (lf_up s.1 95 9 y1) 95 7 ((s.1 95 7) + 1)) s.2.2 := lf_fq_up fr68 rfl (fun h => absurd h (by decide))
  refine ⟨(show lf_R x1 from lf_Rof (by omega)), ?_⟩
  refine ⟨fun c73 => ?_, fun c73 => ?_⟩
  · skip
    replace c73 : x1 = 60 := c73
    have b74 : 0 ≤ s.1 95 8 ∧ s.1 95 8 ≤ 300 := (show 0 ≤ (lf_up (lf_up s.1 95 9 y1) 95 7 ((s.1 95 7) + 1)) 95 8 ∧ (lf_up (lf_up s.1 95 9 y1) 95 7 ((s.1 95 7) + 1)) 95 8 ≤ 300 from iv_r95_8 hI71)
    have b75 : (lf_up (lf_up s.1 95 9 y1) 95 7 ((s.1 95 7) + 1)) 95 8 = (lf_up s.1 95 9 y1) 95 8 := lf_up_i (by omega)
    have b76 : (lf_up s.1 95 9 y1) 95 8 = s.1 95 8 := lf_up_i (by omega)
    have b77 : 0 ≤ s.1 95 12 ∧ s.1 95 12 ≤ 2115 := (show 0 ≤ (lf_up (lf_up s.1 95 9 y1) 95 7 ((s.1 95 7) + 1)) 95 12 ∧ (lf_up (lf_up s.1 95 9 y1) 95 7 ((s.1 95 7) + 1)) 95 12 ≤ 2115 from iv_r95_12 hI71)
    have b78 : (lf_up (lf_up s.1 95 9 y1) 95 7 ((s.1 95 7) + 1)) 95 12 = (lf_up s.1 95 9 y1) 95 12 := lf_up_i (by omega)
    have b79 : (lf_up s.1 95 9 y1) 95 12 = s.1 95 12 := lf_up_i (by omega)
    have b80 : 0 ≤ s.1 95 13 ∧ s.1 95 13 ≤ 304 := (show 0 ≤ (lf_up (lf_up s.1 95 9 y1) 95 7 ((s.1 95 7) + 1)) 95 13 ∧ (lf_up (lf_up s.1 95 9 y1) 95 7 ((s.1 95 7) + 1)) 95 13 ≤ 304 from iv_r95_13 hI71)
    have b81 : (lf_up (lf_up s.1 95 9 y1) 95 7 ((s.1 95 7) + 1)) 95 13 = (lf_up s.1 95 9 y1) 95 13 := lf_up_i (by omega)
    have b82 : (lf_up s.1 95 9 y1) 95 13 = s.1 95 13 := lf_up_i (by omega)
    have b83 : 0 ≤ s.1 95 19 ∧ s.1 95 19 ≤ 160 := (show 0 ≤ (lf_up (lf_up s.1 95 9 y1) 95 7 ((s.1 95 7) + 1)) 95 19 ∧ (lf_up (lf_up s.1 95 9 y1) 95 7 ((s.1 95 7) + 1)) 95 19 ≤ 160 from iv_r95_19 hI71)
    have b84 : (lf_up (lf_up s.1 95 9 y1) 95 7 ((s.1 95 7) + 1)) 95 19 = (lf_up s.1 95 9 y1) 95 19 := lf_up_i (by omega)
    have b85 : (lf_up s.1 95 9 y1) 95 19 = s.1 95 19 := lf_up_i (by omega)
    have b86 : 0 ≤ s.1 95 20 ∧ s.1 95 20 ≤ 8 := (show 0 ≤ (lf_up (lf_up s.1 95 9 y1) 95 7 ((s.1 95 7) + 1)) 95 20 ∧ (lf_up (lf_up s.1 95 9 y1) 95 7 ((s.1 95 7) + 1)) 95 20 ≤ 8 from iv_r95_20 hI71)
    have b87 : (lf_up (lf_up s.1 95 9 y1) 95 7 ((s.1 95 7) + 1)) 95 20 = (lf_up s.1 95 9 y1) 95 20 := lf_up_i (by omega)
    have b88 : (lf_up s.1 95 9 y1) 95 20 = s.1 95 20 := lf_up_i (by omega)
    have b89 : 0 ≤ s.1 95 21 ∧ s.1 95 21 ≤ 8 := (show 0 ≤ (lf_up (lf_up s.1 95 9 y1) 95 7 ((s.1 95 7) + 1)) 95 21 ∧ (lf_up (lf_up s.1 95 9 y1) 95 7 ((s.1 95 7) + 1)) 95 21 ≤ 8 from iv_r95_21 hI71)
    have b90 : (lf_up (lf_up s.1 95 9 y1) 95 7 ((s.1 95 7) + 1)) 95 21 = (lf_up s.1 95 9 y1) 95 21 := lf_up_i (by omega)
    have b91 : (lf_up s.1 95 9 y1) 95 21 = s.1 95 21 := lf_up_i (by omega)
    have b92 : 0 ≤ s.1 95 22 ∧ s.1 95 22 ≤ 80 := (show 0 ≤ (lf_up (lf_up s.1 95 9 y1) 95 7 ((s.1 95 7) + 1)) 95 22 ∧ (lf_up (lf_up s.1 95 9 y1) 95 7 ((s.1 95 7) + 1)) 95 22 ≤ 80 from iv_r95_22 hI71)
    have b93 : (lf_up (lf_up s.1 95 9 y1) 95 7 ((s.1 95 7) + 1)) 95 22 = (lf_up s.1 95 9 y1) 95 22 := lf_up_i (by omega)
    have b94 : (lf_up s.1 95 9 y1) 95 22 = s.1 95 22 := lf_up_i (by omega)
    have b95 : 0 ≤ s.1 95 23 ∧ s.1 95 23 ≤ 1 := (show 0 ≤ (lf_up (lf_up s.1 95 9 y1) 95 7 ((s.1 95 7) + 1)) 95 23 ∧ (lf_up (lf_up s.1 95 9 y1) 95 7 ((s.1 95 7) + 1)) 95 23 ≤ 1 from iv_r95_23 hI71)
    have b96 : (lf_up (lf_up s.1 95 9 y1) 95 7 ((s.1 95 7) + 1)) 95 23 = (lf_up s.1 95 9 y1) 95 23 := lf_up_i (by omega)
    have b97 : (lf_up s.1 95 9 y1) 95 23 = s.1 95 23 := lf_up_i (by omega)
    exact sm_197_p272 (s0 := s0) (fun t9 i9 f9 => hQ t9 i9 (lf_fq_tr fr72 f9)) hI71 (show (60 : Int) ≤ x1 ∧ x1 ≤ (62 : Int) from by omega) (show s0.1 95 7 ≤ (s.1 95 8) ∧ (s.1 95 8) < ((s.1 95 7) + 1) from by omega) (show (s.1 95 12) = s0.1 95 12 ∧ (s.1 95 13) = s0.1 95 13 ∧ (s.1 95 19) = s0.1 95 19 ∧ (s.1 95 20) = s0.1 95 20 ∧ (s.1 95 21) = s0.1 95 21 ∧ (s.1 95 22) = s0.1 95 22 ∧ (s.1 95 23) = s0.1 95 23 from by omega)
  · skip
    replace c73 : ¬ (x1 = 60) := c73
    refine ⟨fun c125 => ?_, fun c125 => ?_⟩
    · skip
      replace c125 : x1 ≠ 62 := c125
      exact hQ (lf_up (lf_up s.1 95 9 y1) 95 7 ((s.1 95 7) + 1), s.2.1, s.2.2) hI71 fr72 (show s0.1 95 7 ≤ (s.1 95 8) ∧ (y1 = 0 ∨ (s.1 95 8) < ((s.1 95 7) + 1)) from by omega) (show (s.1 95 12) = s0.1 95 12 ∧ (s.1 95 13) = s0.1 95 13 ∧ (s.1 95 19) = s0.1 95 19 ∧ (s.1 95 20) = s0.1 95 20 ∧ (s.1 95 21) = s0.1 95 21 ∧ (s.1 95 22) = s0.1 95 22 ∧ (s.1 95 23) = s0.1 95 23 from by omega)
    · skip
      replace c125 : ¬ (x1 ≠ 62) := c125
      have b126 : 0 ≤ s.1 95 8 ∧ s.1 95 8 ≤ 300 := (show 0 ≤ (lf_up (lf_up s.1 95 9 y1) 95 7 ((s.1 95 7) + 1)) 95 8 ∧ (lf_up (lf_up s.1 95 9 y1) 95 7 ((s.1 95 7) + 1)) 95 8 ≤ 300 from iv_r95_8 hI71)
      have b127 : (lf_up (lf_up s.1 95 9 y1) 95 7 ((s.1 95 7) + 1)) 95 8 = (lf_up s.1 95 9 y1) 95 8 := lf_up_i (by omega)
      have b128 : (lf_up s.1 95 9 y1) 95 8 = s.1 95 8 := lf_up_i (by omega)
      have b129 : 0 ≤ s.1 95 12 ∧ s.1 95 12 ≤ 2115 := (show 0 ≤ (lf_up (lf_up s.1 95 9 y1) 95 7 ((s.1 95 7) + 1)) 95 12 ∧ (lf_up (lf_up s.1 95 9 y1) 95 7 ((s.1 95 7) + 1)) 95 12 ≤ 2115 from iv_r95_12 hI71)
      have b130 : (lf_up (lf_up s.1 95 9 y1) 95 7 ((s.1 95 7) + 1)) 95 12 = (lf_up s.1 95 9 y1) 95 12 := lf_up_i (by omega)
      have b131 : (lf_up s.1 95 9 y1) 95 12 = s.1 95 12 := lf_up_i (by omega)
      have b132 : 0 ≤ s.1 95 13 ∧ s.1 95 13 ≤ 304 := (show 0 ≤ (lf_up (lf_up s.1 95 9 y1) 95 7 ((s.1 95 7) + 1)) 95 13 ∧ (lf_up (lf_up s.1 95 9 y1) 95 7 ((s.1 95 7) + 1)) 95 13 ≤ 304 from iv_r95_13 hI71)
      have b133 : (lf_up (lf_up s.1 95 9 y1) 95 7 ((s.1 95 7) + 1)) 95 13 = (lf_up s.1 95 9 y1) 95 13 := lf_up_i (by omega)
      have b134 : (lf_up s.1 95 9 y1) 95 13 = s.1 95 13 := lf_up_i (by omega)
      have b135 : 0 ≤ s.1 95 19 ∧ s.1 95 19 ≤ 160 := (show 0 ≤ (lf_up (lf_up s.1 95 9 y1) 95 7 ((s.1 95 7) + 1)) 95 19 ∧ (lf_up (lf_up s.1 95 9 y1) 95 7 ((s.1 95 7) + 1)) 95 19 ≤ 160 from iv_r95_19 hI71)
      have b136 : (lf_up (lf_up s.1 95 9 y1) 95 7 ((s.1 95 7) + 1)) 95 19 = (lf_up s.1 95 9 y1) 95 19 := lf_up_i (by omega)
      have b137 : (lf_up s.1 95 9 y1) 95 19 = s.1 95 19 := lf_up_i (by omega)
      have b138 : 0 ≤ s.1 95 20 ∧ s.1 95 20 ≤ 8 := (show 0 ≤ (lf_up (lf_up s.1 95 9 y1) 95 7 ((s.1 95 7) + 1)) 95 20 ∧ (lf_up (lf_up s.1 95 9 y1) 95 7 ((s.1 95 7) + 1)) 95 20 ≤ 8 from iv_r95_20 hI71)
      have b139 : (lf_up (lf_up s.1 95 9 y1) 95 7 ((s.1 95 7) + 1)) 95 20 = (lf_up s.1 95 9 y1) 95 20 := lf_up_i (by omega)
      have b140 : (lf_up s.1 95 9 y1) 95 20 = s.1 95 20 := lf_up_i (by omega)
      have b141 : 0 ≤ s.1 95 21 ∧ s.1 95 21 ≤ 8 := (show 0 ≤ (lf_up (lf_up s.1 95 9 y1) 95 7 ((s.1 95 7) + 1)) 95 21 ∧ (lf_up (lf_up s.1 95 9 y1) 95 7 ((s.1 95 7) + 1)) 95 21 ≤ 8 from iv_r95_21 hI71)
      have b142 : (lf_up (lf_up s.1 95 9 y1) 95 7 ((s.1 95 7) + 1)) 95 21 = (lf_up s.1 95 9 y1) 95 21 := lf_up_i (by omega)
      have b143 : (lf_up s.1 95 9 y1) 95 21 = s.1 95 21 := lf_up_i (by omega)
      have b144 : 0 ≤ s.1 95 22 ∧ s.1 95 22 ≤ 80 := (show 0 ≤ (lf_up (lf_up s.1 95 9 y1) 95 7 ((s.1 95 7) + 1)) 95 22 ∧ (lf_up (lf_up s.1 95 9 y1) 95 7 ((s.1 95 7) + 1)) 95 22 ≤ 80 from iv_r95_22 hI71)
      have b145 : (lf_up (lf_up s.1 95 9 y1) 95 7 ((s.1 95 7) + 1)) 95 22 = (lf_up s.1 95 9 y1) 95 22 := lf_up_i (by omega)
      have b146 : (lf_up s.1 95 9 y1) 95 22 = s.1 95 22 := lf_up_i (by omega)
      have b147 : 0 ≤ s.1 95 23 ∧ s.1 95 23 ≤ 1 := (show 0 ≤ (lf_up (lf_up s.1 95 9 y1) 95 7 ((s.1 95 7) + 1)) 95 23 ∧ (lf_up (lf_up s.1 95 9 y1) 95 7 ((s.1 95 7) + 1)) 95 23 ≤ 1 from iv_r95_23 hI71)
      have b148 : (lf_up (lf_up s.1 95 9 y1) 95 7 ((s.1 95 7) + 1)) 95 23 = (lf_up s.1 95 9 y1) 95 23 := lf_up_i (by omega)
      have b149 : (lf_up s.1 95 9 y1) 95 23 = s.1 95 23 := lf_up_i (by omega)
      exact sm_197_p272 (s0 := s0) (fun t9 i9 f9 => hQ t9 i9 (lf_fq_tr fr72 f9)) hI71 (show (60 : Int) ≤ x1 ∧ x1 ≤ (62 : Int) from by omega) (show s0.1 95 7 ≤ (s.1 95 8) ∧ (s.1 95 8) < ((s.1 95 7) + 1) from by omega) (show (s.1 95 12) = s0.1 95 12 ∧ (s.1 95 13) = s0.1 95 13 ∧ (s.1 95 19) = s0.1 95 19 ∧ (s.1 95 20) = s0.1 95 20 ∧ (s.1 95 21) = s0.1 95 21 ∧ (s.1 95 22) = s0.1 95 22 ∧ (s.1 95 23) = s0.1 95 23 from by omega)
theorem sm_197_p218 {X168 : lf_Z → Prop} {Q : lf_Z → Prop} {y1 : Int} {s : lf_Z} {s0 : lf_Z} (hQ : ∀  (s' : lf_Z), iv_A s'.1 s'.2.2 → lf_fq [95] 1000000 true s.1 s.2.2 s'.1 s'.2.2 → (s0.1 95 7 ≤ s'.1 95 8 ∧ (s'.1 95 9 = 0 ∨ s'.1 95 8 < s'.1 95 7)) → (s'.1 95 12 = s0.1 95 12 ∧ s'.1 95 13 = s0.1 95 13 ∧ s'.1 95 19 = s0.1 95 19 ∧ s'.1 95 20 = s0.1 95 20 ∧ s'.1 95 21 = s0.1 95 21 ∧ s'.1 95 22 = s0.1 95 22 ∧ s'.1 95 23 = s0.1 95 23) → Q  s') {M168 : Nat} (hX168 : ∀ (s' : lf_Z), iv_A s'.1 s'.2.2 → lf_fq [95] 1000000 true s.1 s.2.2 s'.1 s'.2.2 → (s0.1 95 7 ≤ s'.1 95 8 ∧ s'.1 95 8 ≤ s'.1 95 7) → (s'.1 95 8 < s'.1 95 7 ∨ (s'.1 95 7 < s'.1 95 4 ∧ ((97 ≤ s'.1 99 (s'.1 95 7) ∧ s'.1 99 (s'.1 95 7) ≤ 122) ∨ (65 ≤ s'.1 99 (s'.1 95 7) ∧ s'.1 99 (s'.1 95 7) ≤ 90)))) → (s'.1 95 12 = s0.1 95 12 ∧ s'.1 95 13 = s0.1 95 13 ∧ s'.1 95 19 = s0.1 95 19 ∧ s'.1 95 20 = s0.1 95 20 ∧ s'.1 95 21 = s0.1 95 21 ∧ s'.1 95 22 = s0.1 95 22 ∧ s'.1 95 23 = s0.1 95 23) → (300 - s'.1 95 7).toNat < M168 → X168 s') (hM168 : (300 - s.1 95 7).toNat ≤ M168) (hI : iv_A s.1 s.2.2) (kv0 : s.1 95 7 < 300) (kv1 : s0.1 95 7 ≤ s.1 95 8 ∧ s.1 95 8 ≤ s.1 95 7) (kv2 : s.1 95 12 = s0.1 95 12 ∧ s.1 95 13 = s0.1 95 13 ∧ s.1 95 19 = s0.1 95 19 ∧ s.1 95 20 = s0.1 95 20 ∧ s.1 95 21 = s0.1 95 21 ∧ s.1 95 22 = s0.1 95 22 ∧ s.1 95 23 = s0.1 95 23) : fm_197_p218 X168 Q y1 s := by
  unfold fm_197_p218
  have b207 : 0 ≤ s.1 95 7 ∧ s.1 95 7 ≤ 300 := iv_r95_7 hI
  have hI208 : iv_A (lf_up s.1 95 7 ((s.1 95 7) + 1)) s.2.2 := iv_w95_7 hI (by omega)
  have fr209 : lf_fq [95] 1000000 true s.1 s.2.2 (lf_up s.1 95 7 ((s.1 95 7) + 1)) s.2.2 := lf_fq_up (lf_fq_rf) rfl (fun h => absurd h (by decide))
  have b210 : 0 ≤ s.1 95 8 ∧ s.1 95 8 ≤ 300 := (show 0 ≤ (lf_up s.1 95 7 ((s.1 95 7) + 1)) 95 8 ∧ (lf_up s.1 95 7 ((s.1 95 7) + 1)) 95 8 ≤ 300 from iv_r95_8 hI208)
  have b211 : (lf_up s.1 95 7 ((s.1 95 7) + 1)) 95 8 = s.1 95 8 := lf_up_i (by omega)
  have b212 : 0 ≤ s.1 95 4 ∧ s.1 95 4 ≤ 300 := (show 0 ≤ (lf_up s.1 95 7 ((s.1 95 7) + 1)) 95 4 ∧ (lf_up s.1 95 7 ((s.1 95 7) + 1)) 95 4 ≤ 300 from iv_r95_4 hI208)
  have b213 : (lf_up s.1 95 7 ((s.1 95 7) + 1)) 95 4 = s.1 95 4 := lf_up_i (by omega)
  have b214 : 0 ≤ s.1 95 12 ∧ s.1 95 12 ≤ 2115 := (show 0 ≤ (lf_up s.1 95 7 ((s.1 95 7) + 1)) 95 12 ∧ (lf_up s.1 95 7 ((s.1 95 7) + 1)) 95 12 ≤ 2115 from iv_r95_12 hI208)
  have b215 : (lf_up s.1 95 7 ((s.1 95 7) + 1)) 95 12 = s.1 95 12 := lf_up_i (by omega)
  have b216 : 0 ≤ s.1 95 13 ∧ s.1 95 13 ≤ 304 := (show 0 ≤ (lf_up s.1 95 7 ((s.1 95 7) + 1)) 95 13 ∧ (lf_up s.1 95 7 ((s.1 95 7) + 1)) 95 13 ≤ 304 from iv_r95_13 hI208)
  have b217 : (lf_up s.1 95 7 ((s.1 95 7) + 1)) 95 13 = s.1 95 13 := lf_up_i (by omega)
  have b218 : 0 ≤ s.1 95 19 ∧ s.1 95 19 ≤ 160 := (show 0 ≤ (lf_up s.1 95 7 ((s.1 95 7) + 1)) 95 19 ∧ (lf_up s.1 95 7 ((s.1 95 7) + 1)) 95 19 ≤ 160 from iv_r95_19 hI208)
  have b219 : (lf_up s.1 95 7 ((s.1 95 7) + 1)) 95 19 = s.1 95 19 := lf_up_i (by omega)
  have b220 : 0 ≤ s.1 95 20 ∧ s.1 95 20 ≤ 8 := (show 0 ≤ (lf_up s.1 95 7 ((s.1 95 7) + 1)) 95 20 ∧ (lf_up s.1 95 7 ((s.1 95 7) + 1)) 95 20 ≤ 8 from iv_r95_20 hI208)
  have b221 : (lf_up s.1 95 7 ((s.1 95 7) + 1)) 95 20 = s.1 95 20 := lf_up_i (by omega)
  have b222 : 0 ≤ s.1 95 21 ∧ s.1 95 21 ≤ 8 := (show 0 ≤ (lf_up s.1 95 7 ((s.1 95 7) + 1)) 95 21 ∧ (lf_up s.1 95 7 ((s.1 95 7) + 1)) 95 21 ≤ 8 from iv_r95_21 hI208)
  have b223 : (lf_up s.1 95 7 ((s.1 95 7) + 1)) 95 21 = s.1 95 21 := lf_up_i (by omega)
  have b224 : 0 ≤ s.1 95 22 ∧ s.1 95 22 ≤ 80 := (show 0 ≤ (lf_up s.1 95 7 ((s.1 95 7) + 1)) 95 22 ∧ (lf_up s.1 95 7 ((s.1 95 7) + 1)) 95 22 ≤ 80 from iv_r95_22 hI208)
  have b225 : (lf_up s.1 95 7 ((s.1 95 7) + 1)) 95 22 = s.1 95 22 := lf_up_i (by omega)
  have b226 : 0 ≤ s.1 95 23 ∧ s.1 95 23 ≤ 1 := (show 0 ≤ (lf_up s.1 95 7 ((s.1 95 7) + 1)) 95 23 ∧ (lf_up s.1 95 7 ((s.1 95 7) + 1)) 95 23 ≤ 1 from iv_r95_23 hI208)
  have b227 : (lf_up s.1 95 7 ((s.1 95 7) + 1)) 95 23 = s.1 95 23 := lf_up_i (by omega)
  exact hX168  (lf_up s.1 95 7 ((s.1 95 7) + 1), lf_up s.2.1 95 11 (lf_wl y1), s.2.2) hI208 fr209 (show s0.1 95 7 ≤ (s.1 95 8) ∧ (s.1 95 8) ≤ ((s.1 95 7) + 1) from by omega) (show (s.1 95 8) < ((s.1 95 7) + 1) ∨ (((s.1 95 7) + 1) < (s.1 95 4) ∧ ((97 ≤ (s.1 99) (((s.1 95 7) + 1)) ∧ (s.1 99) (((s.1 95 7) + 1)) ≤ 122) ∨ (65 ≤ (s.1 99) (((s.1 95 7) + 1)) ∧ (s.1 99) (((s.1 95 7) + 1)) ≤ 90))) from by omega) (show (s.1 95 12) = s0.1 95 12 ∧ (s.1 95 13) = s0.1 95 13 ∧ (s.1 95 19) = s0.1 95 19 ∧ (s.1 95 20) = s0.1 95 20 ∧ (s.1 95 21) = s0.1 95 21 ∧ (s.1 95 22) = s0.1 95 22 ∧ (s.1 95 23) = s0.1 95 23 from by omega) (show (300 - ((s.1 95 7) + 1)).toNat < M168 from by omega)
theorem sm_197_p168 {X168 : lf_Z → Prop} {Q : lf_Z → Prop} {s : lf_Z} {s0 : lf_Z} (hQ : ∀  (s' : lf_Z), iv_A s'.1 s'.2.2 → lf_fq [95] 1000000 true s.1 s.2.2 s'.1 s'.2.2 → (s0.1 95 7 ≤ s'.1 95 8 ∧ (s'.1 95 9 = 0 ∨ s'.1 95 8 < s'.1 95 7)) → (s'.1 95 12 = s0.1 95 12 ∧ s'.1 95 13 = s0.1 95 13 ∧ s'.1 95 19 = s0.1 95 19 ∧ s'.1 95 20 = s0.1 95 20 ∧ s'.1 95 21 = s0.1 95 21 ∧ s'.1 95 22 = s0.1 95 22 ∧ s'.1 95 23 = s0.1 95 23) → Q  s') {M168 : Nat} (hX168 : ∀ (s' : lf_Z), iv_A s'.1 s'.2.2 → lf_fq [95] 1000000 true s.1 s.2.2 s'.1 s'.2.2 → (s0.1 95 7 ≤ s'.1 95 8 ∧ s'.1 95 8 ≤ s'.1 95 7) → (s'.1 95 8 < s'.1 95 7 ∨ (s'.1 95 7 < s'.1 95 4 ∧ ((97 ≤ s'.1 99 (s'.1 95 7) ∧ s'.1 99 (s'.1 95 7) ≤ 122) ∨ (65 ≤ s'.1 99 (s'.1 95 7) ∧ s'.1 99 (s'.1 95 7) ≤ 90)))) → (s'.1 95 12 = s0.1 95 12 ∧ s'.1 95 13 = s0.1 95 13 ∧ s'.1 95 19 = s0.1 95 19 ∧ s'.1 95 20 = s0.1 95 20 ∧ s'.1 95 21 = s0.1 95 21 ∧ s'.1 95 22 = s0.1 95 22 ∧ s'.1 95 23 = s0.1 95 23) → (300 - s'.1 95 7).toNat < M168 → X168 s') (hM168 : (300 - s.1 95 7).toNat ≤ M168) (hI : iv_A s.1 s.2.2) (kv0 : s0.1 95 7 ≤ s.1 95 8 ∧ s.1 95 8 ≤ s.1 95 7) (kv1 : s.1 95 8 < s.1 95 7 ∨ (s.1 95 7 < s.1 95 4 ∧ ((97 ≤ s.1 99 (s.1 95 7) ∧ s.1 99 (s.1 95 7) ≤ 122) ∨ (65 ≤ s.1 99 (s.1 95 7) ∧ s.1 99 (s.1 95 7) ≤ 90)))) (kv2 : s.1 95 12 = s0.1 95 12 ∧ s.1 95 13 = s0.1 95 13 ∧ s.1 95 19 = s0.1 95 19 ∧ s.1 95 20 = s0.1 95 20 ∧ s.1 95 21 = s0.1 95 21 ∧ s.1 95 22 = s0.1 95 22 ∧ s.1 95 23 = s0.1 95 23) : fm_197_p168 Q X168 s := by
  unfold fm_197_p168
  have b191 : 0 ≤ s.1 95 7 ∧ s.1 95 7 ≤ 300 := iv_r95_7 hI
  refine sm_198 hI (show (0 : Int) ≤ s.1 95 7 ∧ s.1 95 7 ≤ (300 : Int) from by omega) (fun r42 q192 => ?_)
  obtain ⟨q192, q192x⟩ := q192
  have b193 : 0 ≤ s.1 95 4 ∧ s.1 95 4 ≤ 300 := iv_r95_4 hI
  replace q192x : (r42 = -1 ∧ s.1 95 4 ≤ (s.1 95 7)) ∨ ((s.1 95 7) < s.1 95 4 ∧ r42 = s.1 99 (s.1 95 7)) := q192x
  refine sm_200 hI (show (-1 : Int) ≤ r42 ∧ r42 ≤ (255 : Int) from by omega) (fun z44 q194 => ?_)
  refine ⟨fun c195 => ?_, fun c195 => ?_⟩
  · skip
    have dc195 := q194.2 c195
    exact hQ s hI (lf_fq_rf) (show s0.1 95 7 ≤ (s.1 95 8) ∧ ((s.1 95 9) = 0 ∨ (s.1 95 8) < (s.1 95 7)) from by omega) (show (s.1 95 12) = s0.1 95 12 ∧ (s.1 95 13) = s0.1 95 13 ∧ (s.1 95 19) = s0.1 95 19 ∧ (s.1 95 20) = s0.1 95 20 ∧ (s.1 95 21) = s0.1 95 21 ∧ (s.1 95 22) = s0.1 95 22 ∧ (s.1 95 23) = s0.1 95 23 from by omega)
  · skip
    have dc195 := q194.1 c195
    refine ⟨fun c196 => ?_, fun c196 => ?_⟩
    · replace c196 : lf_lshr (lf_wl (s.2.1 95 11)) 48 = 0 := c196
      refine sm_198 hI (show (0 : Int) ≤ s.1 95 7 ∧ s.1 95 7 ≤ (300 : Int) from by omega) (fun r46 q197 => ?_)
      obtain ⟨q197, q197x⟩ := q197
      have b198 : 0 ≤ s.1 95 4 ∧ s.1 95 4 ≤ 300 := iv_r95_4 hI
      replace q197x : (r46 = -1 ∧ s.1 95 4 ≤ (s.1 95 7)) ∨ ((s.1 95 7) < s.1 95 4 ∧ r46 = s.1 99 (s.1 95 7)) := q197x
      refine ⟨(show lf_R r46 from lf_Rof (by omega)), ?_⟩
      have b199 : 0 ≤ s.1 95 8 ∧ s.1 95 8 ≤ 300 := iv_r95_8 hI
      have b200 : 0 ≤ s.1 95 12 ∧ s.1 95 12 ≤ 2115 := iv_r95_12 hI
      have b201 : 0 ≤ s.1 95 13 ∧ s.1 95 13 ≤ 304 := iv_r95_13 hI
      have b202 : 0 ≤ s.1 95 19 ∧ s.1 95 19 ≤ 160 := iv_r95_19 hI
      have b203 : 0 ≤ s.1 95 20 ∧ s.1 95 20 ≤ 8 := iv_r95_20 hI
      have b204 : 0 ≤ s.1 95 21 ∧ s.1 95 21 ≤ 8 := iv_r95_21 hI
      have b205 : 0 ≤ s.1 95 22 ∧ s.1 95 22 ≤ 80 := iv_r95_22 hI
      have b206 : 0 ≤ s.1 95 23 ∧ s.1 95 23 ≤ 1 := iv_r95_23 hI
      exact sm_197_p218 (s0 := s0) hQ hX168 (show (300 - (s.1 95 7)).toNat ≤ M168 from by omega) hI (show (s.1 95 7) < 300 from by omega) (show s0.1 95 7 ≤ (s.1 95 8) ∧ (s.1 95 8) ≤ (s.1 95 7) from by omega) (show (s.1 95 12) = s0.1 95 12 ∧ (s.1 95 13) = s0.1 95 13 ∧ (s.1 95 19) = s0.1 95 19 ∧ (s.1 95 20) = s0.1 95 20 ∧ (s.1 95 21) = s0.1 95 21 ∧ (s.1 95 22) = s0.1 95 22 ∧ (s.1 95 23) = s0.1 95 23 from by omega)
    · replace c196 : ¬ (lf_lshr (lf_wl (s.2.1 95 11)) 48 = 0) := c196
      have b228 : 0 ≤ s.1 95 8 ∧ s.1 95 8 ≤ 300 := iv_r95_8 hI
      have b229 : 0 ≤ s.1 95 12 ∧ s.1 95 12 ≤ 2115 := iv_r95_12 hI
      have b230 : 0 ≤ s.1 95 13 ∧ s.1 95 13 ≤ 304 := iv_r95_13 hI
      have b231 : 0 ≤ s.1 95 19 ∧ s.1 95 19 ≤ 160 := iv_r95_19 hI
      have b232 : 0 ≤ s.1 95 20 ∧ s.1 95 20 ≤ 8 := iv_r95_20 hI
      have b233 : 0 ≤ s.1 95 21 ∧ s.1 95 21 ≤ 8 := iv_r95_21 hI
      have b234 : 0 ≤ s.1 95 22 ∧ s.1 95 22 ≤ 80 := iv_r95_22 hI
      have b235 : 0 ≤ s.1 95 23 ∧ s.1 95 23 ≤ 1 := iv_r95_23 hI
      exact sm_197_p218 (s0 := s0) hQ hX168 (show (300 - (s.1 95 7)).toNat ≤ M168 from by omega) hI (show (s.1 95 7) < 300 from by omega) (show s0.1 95 7 ≤ (s.1 95 8) ∧ (s.1 95 8) ≤ (s.1 95 7) from by omega) (show (s.1 95 12) = s0.1 95 12 ∧ (s.1 95 13) = s0.1 95 13 ∧ (s.1 95 19) = s0.1 95 19 ∧ (s.1 95 20) = s0.1 95 20 ∧ (s.1 95 21) = s0.1 95 21 ∧ (s.1 95 22) = s0.1 95 22 ∧ (s.1 95 23) = s0.1 95 23 from by omega)
theorem sm_197_p168L {Q : lf_Z → Prop} {s : lf_Z} {s0 : lf_Z} (hQ : ∀  (s' : lf_Z), iv_A s'.1 s'.2.2 → lf_fq [95] 1000000 true s.1 s.2.2 s'.1 s'.2.2 → (s0.1 95 7 ≤ s'.1 95 8 ∧ (s'.1 95 9 = 0 ∨ s'.1 95 8 < s'.1 95 7)) → (s'.1 95 12 = s0.1 95 12 ∧ s'.1 95 13 = s0.1 95 13 ∧ s'.1 95 19 = s0.1 95 19 ∧ s'.1 95 20 = s0.1 95 20 ∧ s'.1 95 21 = s0.1 95 21 ∧ s'.1 95 22 = s0.1 95 22 ∧ s'.1 95 23 = s0.1 95 23) → Q  s') (hI : iv_A s.1 s.2.2) (kv0 : s0.1 95 7 ≤ s.1 95 8 ∧ s.1 95 8 ≤ s.1 95 7) (kv1 : s.1 95 8 < s.1 95 7 ∨ (s.1 95 7 < s.1 95 4 ∧ ((97 ≤ s.1 99 (s.1 95 7) ∧ s.1 99 (s.1 95 7) ≤ 122) ∨ (65 ≤ s.1 99 (s.1 95 7) ∧ s.1 99 (s.1 95 7) ≤ 90)))) (kv2 : s.1 95 12 = s0.1 95 12 ∧ s.1 95 13 = s0.1 95 13 ∧ s.1 95 19 = s0.1 95 19 ∧ s.1 95 20 = s0.1 95 20 ∧ s.1 95 21 = s0.1 95 21 ∧ s.1 95 22 = s0.1 95 22 ∧ s.1 95 23 = s0.1 95 23) : fm_197_p168L Q s := by
  intro X168 hX
  have key : ∀ (m9 : Nat) (s' : lf_Z), iv_A s'.1 s'.2.2 → lf_fq [95] 1000000 true s.1 s.2.2 s'.1 s'.2.2 → (s0.1 95 7 ≤ s'.1 95 8 ∧ s'.1 95 8 ≤ s'.1 95 7) → (s'.1 95 8 < s'.1 95 7 ∨ (s'.1 95 7 < s'.1 95 4 ∧ ((97 ≤ s'.1 99 (s'.1 95 7) ∧ s'.1 99 (s'.1 95 7) ≤ 122) ∨ (65 ≤ s'.1 99 (s'.1 95 7) ∧ s'.1 99 (s'.1 95 7) ≤ 90)))) → (s'.1 95 12 = s0.1 95 12 ∧ s'.1 95 13 = s0.1 95 13 ∧ s'.1 95 19 = s0.1 95 19 ∧ s'.1 95 20 = s0.1 95 20 ∧ s'.1 95 21 = s0.1 95 21 ∧ s'.1 95 22 = s0.1 95 22 ∧ s'.1 95 23 = s0.1 95 23) → (300 - s'.1 95 7).toNat < m9 → X168 s' := by
    intro m9
    induction m9 with
    | zero => intro  s' _ _ kv0 kv1 kv2 h9; exact absurd h9 (Nat.not_lt_zero _)
    | succ m9 ih => intro  s' i7 f7 kv0 kv1 kv2 h9; exact hX  _ (sm_197_p168 (s0 := s0) (fun t9 i9 f9 => hQ t9 i9 (lf_fq_tr f7 f9))   (fun  t8 i8 f8 kv0' kv1' kv2' h8 => ih  t8 i8 (lf_fq_tr f7 f8) kv0' kv1' kv2' (by omega)) (Nat.le_refl _)  i7    kv0 kv1 kv2)
  exact key _  s hI lf_fq_rf kv0 kv1 kv2 (Nat.lt_succ_self _)
theorem sm_197_p135 {X85 : lf_Z → Prop} {Q : lf_Z → Prop} {y1 : Int} {s : lf_Z} {s0 : lf_Z} (hQ : ∀  (s' : lf_Z), iv_A s'.1 s'.2.2 → lf_fq [95] 1000000 true s.1 s.2.2 s'.1 s'.2.2 → (s0.1 95 7 ≤ s'.1 95 8 ∧ (s'.1 95 9 = 0 ∨ s'.1 95 8 < s'.1 95 7)) → (s'.1 95 12 = s0.1 95 12 ∧ s'.1 95 13 = s0.1 95 13 ∧ s'.1 95 19 = s0.1 95 19 ∧ s'.1 95 20 = s0.1 95 20 ∧ s'.1 95 21 = s0.1 95 21 ∧ s'.1 95 22 = s0.1 95 22 ∧ s'.1 95 23 = s0.1 95 23) → Q  s') {M85 : Nat} (hX85 : ∀ (s' : lf_Z), iv_A s'.1 s'.2.2 → lf_fq [95] 1000000 true s.1 s.2.2 s'.1 s'.2.2 → (s0.1 95 7 ≤ s'.1 95 8 ∧ s'.1 95 8 ≤ s'.1 95 7) → (s'.1 95 8 < s'.1 95 7 ∨ (s'.1 95 7 < s'.1 95 4 ∧ 48 ≤ s'.1 99 (s'.1 95 7) ∧ s'.1 99 (s'.1 95 7) ≤ 57)) → (s'.1 95 12 = s0.1 95 12 ∧ s'.1 95 13 = s0.1 95 13 ∧ s'.1 95 19 = s0.1 95 19 ∧ s'.1 95 20 = s0.1 95 20 ∧ s'.1 95 21 = s0.1 95 21 ∧ s'.1 95 22 = s0.1 95 22 ∧ s'.1 95 23 = s0.1 95 23) → (300 - s'.1 95 7).toNat < M85 → X85 s') (hM85 : (300 - s.1 95 7).toNat ≤ M85) (hI : iv_A s.1 s.2.2) (by1 : (-2147483648) ≤ y1 ∧ y1 ≤ 2147483647) (kv0 : s.1 95 7 < 300) (kv1 : s0.1 95 7 ≤ s.1 95 8 ∧ s.1 95 8 ≤ s.1 95 7) (kv2 : s.1 95 12 = s0.1 95 12 ∧ s.1 95 13 = s0.1 95 13 ∧ s.1 95 19 = s0.1 95 19 ∧ s.1 95 20 = s0.1 95 20 ∧ s.1 95 21 = s0.1 95 21 ∧ s.1 95 22 = s0.1 95 22 ∧ s.1 95 23 = s0.1 95 23) : fm_197_p135 X85 Q y1 s := by
  unfold fm_197_p135
  have hI294 : iv_A (lf_up s.1 95 10 y1) s.2.2 := iv_w95_10 hI (by omega)
  have fr295 : lf_fq [95] 1000000 true s.1 s.2.2 (lf_up s.1 95 10 y1) s.2.2 := lf_fq_up (lf_fq_rf) rfl (fun h => absurd h (by decide))
  have b296 : 0 ≤ s.1 95 7 ∧ s.1 95 7 ≤ 300 := (show 0 ≤ (lf_up s.1 95 10 y1) 95 7 ∧ (lf_up s.1 95 10 y1) 95 7 ≤ 300 from iv_r95_7 hI294)
  have b297 : (lf_up s.1 95 10 y1) 95 7 = s.1 95 7 := lf_up_i (by omega)
  have hI298 : iv_A (lf_up (lf_up s.1 95 10 y1) 95 7 ((s.1 95 7) + 1)) s.2.2 := iv_w95_7 hI294 (by omega)
  have fr299 : lf_fq [95] 1000000 true s.1 s.2.2 (lf_up (lf_up s.1 95 10 y1) 95 7 ((s.1 95 7) + 1)) s.2.2 := lf_fq_up fr295 rfl (fun h => absurd h (by decide))
  have b300 : 0 ≤ s.1 95 8 ∧ s.1 95 8 ≤ 300 := (show 0 ≤ (lf_up (lf_up s.1 95 10 y1) 95 7 ((s.1 95 7) + 1)) 95 8 ∧ (lf_up (lf_up s.1 95 10 y1) 95 7 ((s.1 95 7) + 1)) 95 8 ≤ 300 from iv_r95_8 hI298)
  have b301 : (lf_up (lf_up s.1 95 10 y1) 95 7 ((s.1 95 7) + 1)) 95 8 = (lf_up s.1 95 10 y1) 95 8 := lf_up_i (by omega)
  have b302 : (lf_up s.1 95 10 y1) 95 8 = s.1 95 8 := lf_up_i (by omega)
  have b303 : 0 ≤ s.1 95 4 ∧ s.1 95 4 ≤ 300 := (show 0 ≤ (lf_up (lf_up s.1 95 10 y1) 95 7 ((s.1 95 7) + 1)) 95 4 ∧ (lf_up (lf_up s.1 95 10 y1) 95 7 ((s.1 95 7) + 1)) 95 4 ≤ 300 from iv_r95_4 hI298)
  have b304 : (lf_up (lf_up s.1 95 10 y1) 95 7 ((s.1 95 7) + 1)) 95 4 = (lf_up s.1 95 10 y1) 95 4 := lf_up_i (by omega)
  have b305 : (lf_up s.1 95 10 y1) 95 4 = s.1 95 4 := lf_up_i (by omega)
  have b306 : 0 ≤ s.1 95 12 ∧ s.1 95 12 ≤ 2115 := (show 0 ≤ (lf_up (lf_up s.1 95 10 y1) 95 7 ((s.1 95 7) + 1)) 95 12 ∧ (lf_up (lf_up s.1 95 10 y1) 95 7 ((s.1 95 7) + 1)) 95 12 ≤ 2115 from iv_r95_12 hI298)
  have b307 : (lf_up (lf_up s.1 95 10 y1) 95 7 ((s.1 95 7) + 1)) 95 12 = (lf_up s.1 95 10 y1) 95 12 := lf_up_i (by omega)
  have b308 : (lf_up s.1 95 10 y1) 95 12 = s.1 95 12 := lf_up_i (by omega)
  have b309 : 0 ≤ s.1 95 13 ∧ s.1 95 13 ≤ 304 := (show 0 ≤ (lf_up (lf_up s.1 95 10 y1) 95 7 ((s.1 95 7) + 1)) 95 13 ∧ (lf_up (lf_up s.1 95 10 y1) 95 7 ((s.1 95 7) + 1)) 95 13 ≤ 304 from iv_r95_13 hI298)
  have b310 : (lf_up (lf_up s.1 95 10 y1) 95 7 ((s.1 95 7) + 1)) 95 13 = (lf_up s.1 95 10 y1) 95 13 := lf_up_i (by omega)
  have b311 : (lf_up s.1 95 10 y1) 95 13 = s.1 95 13 := lf_up_i (by omega)
  have b312 : 0 ≤ s.1 95 19 ∧ s.1 95 19 ≤ 160 := (show 0 ≤ (lf_up (lf_up s.1 95 10 y1) 95 7 ((s.1 95 7) + 1)) 95 19 ∧ (lf_up (lf_up s.1 95 10 y1) 95 7 ((s.1 95 7) + 1)) 95 19 ≤ 160 from iv_r95_19 hI298)
  have b313 : (lf_up (lf_up s.1 95 10 y1) 95 7 ((s.1 95 7) + 1)) 95 19 = (lf_up s.1 95 10 y1) 95 19 := lf_up_i (by omega)
  have b314 : (lf_up s.1 95 10 y1) 95 19 = s.1 95 19 := lf_up_i (by omega)
  have b315 : 0 ≤ s.1 95 20 ∧ s.1 95 20 ≤ 8 := (show 0 ≤ (lf_up (lf_up s.1 95 10 y1) 95 7 ((s.1 95 7) + 1)) 95 20 ∧ (lf_up (lf_up s.1 95 10 y1) 95 7 ((s.1 95 7) + 1)) 95 20 ≤ 8 from iv_r95_20 hI298)
  have b316 : (lf_up (lf_up s.1 95 10 y1) 95 7 ((s.1 95 7) + 1)) 95 20 = (lf_up s.1 95 10 y1) 95 20 := lf_up_i (by omega)
  have b317 : (lf_up s.1 95 10 y1) 95 20 = s.1 95 20 := lf_up_i (by omega)
  have b318 : 0 ≤ s.1 95 21 ∧ s.1 95 21 ≤ 8 := (show 0 ≤ (lf_up (lf_up s.1 95 10 y1) 95 7 ((s.1 95 7) + 1)) 95 21 ∧ (lf_up (lf_up s.1 95 10 y1) 95 7 ((s.1 95 7) + 1)) 95 21 ≤ 8 from iv_r95_21 hI298)
  have b319 : (lf_up (lf_up s.1 95 10 y1) 95 7 ((s.1 95 7) + 1)) 95 21 = (lf_up s.1 95 10 y1) 95 21 := lf_up_i (by omega)
  have b320 : (lf_up s.1 95 10 y1) 95 21 = s.1 95 21 := lf_up_i (by omega)
  have b321 : 0 ≤ s.1 95 22 ∧ s.1 95 22 ≤ 80 := (show 0 ≤ (lf_up (lf_up s.1 95 10 y1) 95 7 ((s.1 95 7) + 1)) 95 22 ∧ (lf_up (lf_up s.1 95 10 y1) 95 7 ((s.1 95 7) + 1)) 95 22 ≤ 80 from iv_r95_22 hI298)
  have b322 : (lf_up (lf_up s.1 95 10 y1) 95 7 ((s.1 95 7) + 1)) 95 22 = (lf_up s.1 95 10 y1) 95 22 := lf_up_i (by omega)
  have b323 : (lf_up s.1 95 10 y1) 95 22 = s.1 95 22 := lf_up_i (by omega)
  have b324 : 0 ≤ s.1 95 23 ∧ s.1 95 23 ≤ 1 := (show 0 ≤ (lf_up (lf_up s.1 95 10 y1) 95 7 ((s.1 95 7) + 1)) 95 23 ∧ (lf_up (lf_up s.1 95 10 y1) 95 7 ((s.1 95 7) + 1)) 95 23 ≤ 1 from iv_r95_23 hI298)
  have b325 : (lf_up (lf_up s.1 95 10 y1) 95 7 ((s.1 95 7) + 1)) 95 23 = (lf_up s.1 95 10 y1) 95 23 := lf_up_i (by omega)
  have b326 : (lf_up s.1 95 10 y1) 95 23 = s.1 95 23 := lf_up_i (by omega)
  exact hX85  (lf_up (lf_up s.1 95 10 y1) 95 7 ((s.1 95 7) + 1), s.2.1, s.2.2) hI298 fr299 (show s0.1 95 7 ≤ (s.1 95 8) ∧ (s.1 95 8) ≤ ((s.1 95 7) + 1) from by omega) (show (s.1 95 8) < ((s.1 95 7) + 1) ∨ (((s.1 95 7) + 1) < (s.1 95 4) ∧ 48 ≤ (s.1 99) (((s.1 95 7) + 1)) ∧ (s.1 99) (((s.1 95 7) + 1)) ≤ 57) from by omega) (show (s.1 95 12) = s0.1 95 12 ∧ (s.1 95 13) = s0.1 95 13 ∧ (s.1 95 19) = s0.1 95 19 ∧ (s.1 95 20) = s0.1 95 20 ∧ (s.1 95 21) = s0.1 95 21 ∧ (s.1 95 22) = s0.1 95 22 ∧ (s.1 95 23) = s0.1 95 23 from by omega) (show (300 - ((s.1 95 7) + 1)).toNat < M85 from by omega)
theorem sm_197_p85 {X85 : lf_Z → Prop} {Q : lf_Z → Prop} {s : lf_Z} {s0 : lf_Z} (hQ : ∀  (s' : lf_Z), iv_A s'.1 s'.2.2 → lf_fq [95] 1000000 true s.1 s.2.2 s'.1 s'.2.2 → (s0.1 95 7 ≤ s'.1 95 8 ∧ (s'.1 95 9 = 0 ∨ s'.1 95 8 < s'.1 95 7)) → (s'.1 95 12 = s0.1 95 12 ∧ s'.1 95 13 = s0.1 95 13 ∧ s'.1 95 19 = s0.1 95 19 ∧ s'.1 95 20 = s0.1 95 20 ∧ s'.1 95 21 = s0.1 95 21 ∧ s'.1 95 22 = s0.1 95 22 ∧ s'.1 95 23 = s0.1 95 23) → Q  s') {M85 : Nat} (hX85 : ∀ (s' : lf_Z), iv_A s'.1 s'.2.2 → lf_fq [95] 1000000 true s.1 s.2.2 s'.1 s'.2.2 → (s0.1 95 7 ≤ s'.1 95 8 ∧ s'.1 95 8 ≤ s'.1 95 7) → (s'.1 95 8 < s'.1 95 7 ∨ (s'.1 95 7 < s'.1 95 4 ∧ 48 ≤ s'.1 99 (s'.1 95 7) ∧ s'.1 99 (s'.1 95 7) ≤ 57)) → (s'.1 95 12 = s0.1 95 12 ∧ s'.1 95 13 = s0.1 95 13 ∧ s'.1 95 19 = s0.1 95 19 ∧ s'.1 95 20 = s0.1 95 20 ∧ s'.1 95 21 = s0.1 95 21 ∧ s'.1 95 22 = s0.1 95 22 ∧ s'.1 95 23 = s0.1 95 23) → (300 - s'.1 95 7).toNat < M85 → X85 s') (hM85 : (300 - s.1 95 7).toNat ≤ M85) (hI : iv_A s.1 s.2.2) (kv0 : s0.1 95 7 ≤ s.1 95 8 ∧ s.1 95 8 ≤ s.1 95 7) (kv1 : s.1 95 8 < s.1 95 7 ∨ (s.1 95 7 < s.1 95 4 ∧ 48 ≤ s.1 99 (s.1 95 7) ∧ s.1 99 (s.1 95 7) ≤ 57)) (kv2 : s.1 95 12 = s0.1 95 12 ∧ s.1 95 13 = s0.1 95 13 ∧ s.1 95 19 = s0.1 95 19 ∧ s.1 95 20 = s0.1 95 20 ∧ s.1 95 21 = s0.1 95 21 ∧ s.1 95 22 = s0.1 95 22 ∧ s.1 95 23 = s0.1 95 23) : fm_197_p85 Q X85 s := by
  unfold fm_197_p85
  have b274 : 0 ≤ s.1 95 7 ∧ s.1 95 7 ≤ 300 := iv_r95_7 hI
  refine sm_198 hI (show (0 : Int) ≤ s.1 95 7 ∧ s.1 95 7 ≤ (300 : Int) from by omega) (fun r49 q275 => ?_)
  obtain ⟨q275, q275x⟩ := q275
  have b276 : 0 ≤ s.1 95 4 ∧ s.1 95 4 ≤ 300 := iv_r95_4 hI
  replace q275x : (r49 = -1 ∧ s.1 95 4 ≤ (s.1 95 7)) ∨ ((s.1 95 7) < s.1 95 4 ∧ r49 = s.1 99 (s.1 95 7)) := q275x
  refine sm_199 hI (show (-1 : Int) ≤ r49 ∧ r49 ≤ (255 : Int) from by omega) (fun z51 q277 => ?_)
  refine ⟨fun c278 => ?_, fun c278 => ?_⟩
  · skip
    have dc278 := q277.2 c278
    exact hQ s hI (lf_fq_rf) (show s0.1 95 7 ≤ (s.1 95 8) ∧ ((s.1 95 9) = 0 ∨ (s.1 95 8) < (s.1 95 7)) from by omega) (show (s.1 95 12) = s0.1 95 12 ∧ (s.1 95 13) = s0.1 95 13 ∧ (s.1 95 19) = s0.1 95 19 ∧ (s.1 95 20) = s0.1 95 20 ∧ (s.1 95 21) = s0.1 95 21 ∧ (s.1 95 22) = s0.1 95 22 ∧ (s.1 95 23) = s0.1 95 23 from by omega)
  · skip
    have dc278 := q277.1 c278
    have b279 : (-2147483648) ≤ s.1 95 10 ∧ s.1 95 10 ≤ 2147483647 := iv_full hI
    refine ⟨(show lf_R (s.1 95 10) from lf_Rof (by omega)), ?_⟩
    refine ⟨fun c280 => ?_, fun c280 => ?_⟩
    · skip
      replace c280 : s.1 95 10 ≤ 99999 := c280
      have b281 : (-2147483648) ≤ lf_w (10 * (s.1 95 10)) ∧ lf_w (10 * (s.1 95 10)) ≤ 2147483647 := lf_wB
      refine sm_198 hI (show (0 : Int) ≤ s.1 95 7 ∧ s.1 95 7 ≤ (300 : Int) from by omega) (fun r54 q282 => ?_)
      obtain ⟨q282, q282x⟩ := q282
      have b283 : 0 ≤ s.1 95 4 ∧ s.1 95 4 ≤ 300 := iv_r95_4 hI
      replace q282x : (r54 = -1 ∧ s.1 95 4 ≤ (s.1 95 7)) ∨ ((s.1 95 7) < s.1 95 4 ∧ r54 = s.1 99 (s.1 95 7)) := q282x
      have b284 : (-2147483648) ≤ lf_w ((lf_w (10 * (s.1 95 10))) + r54) ∧ lf_w ((lf_w (10 * (s.1 95 10))) + r54) ≤ 2147483647 := lf_wB
      have b285 : (-2147483648) ≤ lf_w ((lf_w ((lf_w (10 * (s.1 95 10))) + r54)) - 48) ∧ lf_w ((lf_w ((lf_w (10 * (s.1 95 10))) + r54)) - 48) ≤ 2147483647 := lf_wB
      have b286 : 0 ≤ s.1 95 8 ∧ s.1 95 8 ≤ 300 := iv_r95_8 hI
      have b287 : 0 ≤ s.1 95 12 ∧ s.1 95 12 ≤ 2115 := iv_r95_12 hI
      have b288 : 0 ≤ s.1 95 13 ∧ s.1 95 13 ≤ 304 := iv_r95_13 hI
      have b289 : 0 ≤ s.1 95 19 ∧ s.1 95 19 ≤ 160 := iv_r95_19 hI
      have b290 : 0 ≤ s.1 95 20 ∧ s.1 95 20 ≤ 8 := iv_r95_20 hI
      have b291 : 0 ≤ s.1 95 21 ∧ s.1 95 21 ≤ 8 := iv_r95_21 hI
      have b292 : 0 ≤ s.1 95 22 ∧ s.1 95 22 ≤ 80 := iv_r95_22 hI
      have b293 : 0 ≤ s.1 95 23 ∧ s.1 95 23 ≤ 1 := iv_r95_23 hI
      exact sm_197_p135 (s0 := s0) hQ hX85 (show (300 - (s.1 95 7)).toNat ≤ M85 from by omega) hI (show (-2147483648 : Int) ≤ lf_w ((lf_w ((lf_w (10 * (s.1 95 10))) + r54)) - 48) ∧ lf_w ((lf_w ((lf_w (10 * (s.1 95 10))) + r54)) - 48) ≤ (2147483647 : Int) from by omega) (show (s.1 95 7) < 300 from by omega) (show s0.1 95 7 ≤ (s.1 95 8) ∧ (s.1 95 8) ≤ (s.1 95 7) from by omega) (show (s.1 95 12) = s0.1 95 12 ∧ (s.1 95 13) = s0.1 95 13 ∧ (s.1 95 19) = s0.1 95 19 ∧ (s.1 95 20) = s0.1 95 20 ∧ (s.1 95 21) = s0.1 95 21 ∧ (s.1 95 22) = s0.1 95 22 ∧ (s.1 95 23) = s0.1 95 23 from by omega)
    · skip
      replace c280 : ¬ (s.1 95 10 ≤ 99999) := c280
      have b327 : 0 ≤ s.1 95 8 ∧ s.1 95 8 ≤ 300 := iv_r95_8 hI
      have b328 : 0 ≤ s.1 95 12 ∧ s.1 95 12 ≤ 2115 := iv_r95_12 hI
      have b329 : 0 ≤ s.1 95 13 ∧ s.1 95 13 ≤ 304 := iv_r95_13 hI
      have b330 : 0 ≤ s.1 95 19 ∧ s.1 95 19 ≤ 160 := iv_r95_19 hI
      have b331 : 0 ≤ s.1 95 20 ∧ s.1 95 20 ≤ 8 := iv_r95_20 hI
      have b332 : 0 ≤ s.1 95 21 ∧ s.1 95 21 ≤ 8 := iv_r95_21 hI
      have b333 : 0 ≤ s.1 95 22 ∧ s.1 95 22 ≤ 80 := iv_r95_22 hI
      have b334 : 0 ≤ s.1 95 23 ∧ s.1 95 23 ≤ 1 := iv_r95_23 hI
      exact sm_197_p135 (s0 := s0) hQ hX85 (show (300 - (s.1 95 7)).toNat ≤ M85 from by omega) hI (show (-2147483648 : Int) ≤ s.1 95 10 ∧ s.1 95 10 ≤ (2147483647 : Int) from by omega) (show (s.1 95 7) < 300 from by omega) (show s0.1 95 7 ≤ (s.1 95 8) ∧ (s.1 95 8) ≤ (s.1 95 7) from by omega) (show (s.1 95 12) = s0.1 95 12 ∧ (s.1 95 13) = s0.1 95 13 ∧ (s.1 95 19) = s0.1 95 19 ∧ (s.1 95 20) = s0.1 95 20 ∧ (s.1 95 21) = s0.1 95 21 ∧ (s.1 95 22) = s0.1 95 22 ∧ (s.1 95 23) = s0.1 95 23 from by omega)
theorem sm_197_p85L {Q : lf_Z → Prop} {s : lf_Z} {s0 : lf_Z} (hQ : ∀  (s' : lf_Z), iv_A s'.1 s'.2.2 → lf_fq [95] 1000000 true s.1 s.2.2 s'.1 s'.2.2 → (s0.1 95 7 ≤ s'.1 95 8 ∧ (s'.1 95 9 = 0 ∨ s'.1 95 8 < s'.1 95 7)) → (s'.1 95 12 = s0.1 95 12 ∧ s'.1 95 13 = s0.1 95 13 ∧ s'.1 95 19 = s0.1 95 19 ∧ s'.1 95 20 = s0.1 95 20 ∧ s'.1 95 21 = s0.1 95 21 ∧ s'.1 95 22 = s0.1 95 22 ∧ s'.1 95 23 = s0.1 95 23) → Q  s') (hI : iv_A s.1 s.2.2) (kv0 : s0.1 95 7 ≤ s.1 95 8 ∧ s.1 95 8 ≤ s.1 95 7) (kv1 : s.1 95 8 < s.1 95 7 ∨ (s.1 95 7 < s.1 95 4 ∧ 48 ≤ s.1 99 (s.1 95 7) ∧ s.1 99 (s.1 95 7) ≤ 57)) (kv2 : s.1 95 12 = s0.1 95 12 ∧ s.1 95 13 = s0.1 95 13 ∧ s.1 95 19 = s0.1 95 19 ∧ s.1 95 20 = s0.1 95 20 ∧ s.1 95 21 = s0.1 95 21 ∧ s.1 95 22 = s0.1 95 22 ∧ s.1 95 23 = s0.1 95 23) : fm_197_p85L Q s := by
  intro X85 hX
  have key : ∀ (m9 : Nat) (s' : lf_Z), iv_A s'.1 s'.2.2 → lf_fq [95] 1000000 true s.1 s.2.2 s'.1 s'.2.2 → (s0.1 95 7 ≤ s'.1 95 8 ∧ s'.1 95 8 ≤ s'.1 95 7) → (s'.1 95 8 < s'.1 95 7 ∨ (s'.1 95 7 < s'.1 95 4 ∧ 48 ≤ s'.1 99 (s'.1 95 7) ∧ s'.1 99 (s'.1 95 7) ≤ 57)) → (s'.1 95 12 = s0.1 95 12 ∧ s'.1 95 13 = s0.1 95 13 ∧ s'.1 95 19 = s0.1 95 19 ∧ s'.1 95 20 = s0.1 95 20 ∧ s'.1 95 21 = s0.1 95 21 ∧ s'.1 95 22 = s0.1 95 22 ∧ s'.1 95 23 = s0.1 95 23) → (300 - s'.1 95 7).toNat < m9 → X85 s' := by
    intro m9
    induction m9 with
    | zero => intro  s' _ _ kv0 kv1 kv2 h9; exact absurd h9 (Nat.not_lt_zero _)
    | succ m9 ih => intro  s' i7 f7 kv0 kv1 kv2 h9; exact hX  _ (sm_197_p85 (s0 := s0) (fun t9 i9 f9 => hQ t9 i9 (lf_fq_tr f7 f9))   (fun  t8 i8 f8 kv0' kv1' kv2' h8 => ih  t8 i8 (lf_fq_tr f7 f8) kv0' kv1' kv2' (by omega)) (Nat.le_refl _)  i7    kv0 kv1 kv2)
  exact key _  s hI lf_fq_rf kv0 kv1 kv2 (Nat.lt_succ_self _)
theorem sm_197_p0 {X0 : lf_Z → Prop} {Q : lf_Z → Prop} {s : lf_Z} {s0 : lf_Z} (hQ : ∀  (s' : lf_Z), iv_A s'.1 s'.2.2 → lf_fq [95] 1000000 true s.1 s.2.2 s'.1 s'.2.2 → (s0.1 95 7 ≤ s'.1 95 8 ∧ (s'.1 95 9 = 0 ∨ s'.1 95 8 < s'.1 95 7)) → (s'.1 95 12 = s0.1 95 12 ∧ s'.1 95 13 = s0.1 95 13 ∧ s'.1 95 19 = s0.1 95 19 ∧ s'.1 95 20 = s0.1 95 20 ∧ s'.1 95 21 = s0.1 95 21 ∧ s'.1 95 22 = s0.1 95 22 ∧ s'.1 95 23 = s0.1 95 23) → Q  s') {M0 : Nat} (hX0 : ∀ (s' : lf_Z), iv_A s'.1 s'.2.2 → lf_fq [95] 1000000 true s.1 s.2.2 s'.1 s'.2.2 → (s0.1 95 7 ≤ s'.1 95 7) → (s'.1 95 12 = s0.1 95 12 ∧ s'.1 95 13 = s0.1 95 13 ∧ s'.1 95 19 = s0.1 95 19 ∧ s'.1 95 20 = s0.1 95 20 ∧ s'.1 95 21 = s0.1 95 21 ∧ s'.1 95 22 = s0.1 95 22 ∧ s'.1 95 23 = s0.1 95 23) → (300 - s'.1 95 7).toNat < M0 → X0 s') (hM0 : (300 - s.1 95 7).toNat ≤ M0) (hI : iv_A s.1 s.2.2) (kv0 : s0.1 95 7 ≤ s.1 95 7) (kv1 : s.1 95 12 = s0.1 95 12 ∧ s.1 95 13 = s0.1 95 13 ∧ s.1 95 19 = s0.1 95 19 ∧ s.1 95 20 = s0.1 95 20 ∧ s.1 95 21 = s0.1 95 21 ∧ s.1 95 22 = s0.1 95 22 ∧ s.1 95 23 = s0.1 95 23) : fm_197_p0 Q X0 s := by
  unfold fm_197_p0
  have b9 : 0 ≤ s.1 95 7 ∧ s.1 95 7 ≤ 300 := iv_r95_7 hI
  refine sm_198 hI (show (0 : Int) ≤ s.1 95 7 ∧ s.1 95 7 ≤ (300 : Int) from by omega) (fun r22 q10 => ?_)
  obtain ⟨q10, q10x⟩ := q10
  have b11 : 0 ≤ s.1 95 4 ∧ s.1 95 4 ≤ 300 := iv_r95_4 hI
  replace q10x : (r22 = -1 ∧ s.1 95 4 ≤ (s.1 95 7)) ∨ ((s.1 95 7) < s.1 95 4 ∧ r22 = s.1 99 (s.1 95 7)) := q10x
  refine ⟨(show lf_R r22 from lf_Rof (by omega)), ?_⟩
  refine ⟨fun c12 => ?_, fun c12 => ?_⟩
  · skip
    replace c12 : r22 = 32 := c12
    have b13 : 0 ≤ s.1 95 12 ∧ s.1 95 12 ≤ 2115 := iv_r95_12 hI
    have b14 : 0 ≤ s.1 95 13 ∧ s.1 95 13 ≤ 304 := iv_r95_13 hI
    have b15 : 0 ≤ s.1 95 19 ∧ s.1 95 19 ≤ 160 := iv_r95_19 hI
    have b16 : 0 ≤ s.1 95 20 ∧ s.1 95 20 ≤ 8 := iv_r95_20 hI
    have b17 : 0 ≤ s.1 95 21 ∧ s.1 95 21 ≤ 8 := iv_r95_21 hI
    have b18 : 0 ≤ s.1 95 22 ∧ s.1 95 22 ≤ 80 := iv_r95_22 hI
    have b19 : 0 ≤ s.1 95 23 ∧ s.1 95 23 ≤ 1 := iv_r95_23 hI
    exact sm_197_p26 (s0 := s0) hQ hX0 (show (300 - (s.1 95 7)).toNat ≤ M0 from by omega) hI (show (s.1 95 7) < 300 from by omega) (show s0.1 95 7 ≤ (s.1 95 7) from by omega) (show (s.1 95 12) = s0.1 95 12 ∧ (s.1 95 13) = s0.1 95 13 ∧ (s.1 95 19) = s0.1 95 19 ∧ (s.1 95 20) = s0.1 95 20 ∧ (s.1 95 21) = s0.1 95 21 ∧ (s.1 95 22) = s0.1 95 22 ∧ (s.1 95 23) = s0.1 95 23 from by omega)
  · skip
    replace c12 : ¬ (r22 = 32) := c12
    refine sm_198 hI (show (0 : Int) ≤ s.1 95 7 ∧ s.1 95 7 ≤ (300 : Int) from by omega) (fun r25 q37 => ?_)
    obtain ⟨q37, q37x⟩ := q37
    have b38 : 0 ≤ s.1 95 4 ∧ s.1 95 4 ≤ 300 := iv_r95_4 hI
    replace q37x : (r25 = -1 ∧ s.1 95 4 ≤ (s.1 95 7)) ∨ ((s.1 95 7) < s.1 95 4 ∧ r25 = s.1 99 (s.1 95 7)) := q37x
    refine ⟨(show lf_R r25 from lf_Rof (by omega)), ?_⟩
    refine ⟨fun c39 => ?_, fun c39 => ?_⟩
    · skip
      replace c39 : r25 ≠ 10 := c39
      have hI40 : iv_A (lf_up s.1 95 8 (s.1 95 7)) s.2.2 := iv_w95_8 hI (by omega)
      have fr41 : lf_fq [95] 1000000 true s.1 s.2.2 (lf_up s.1 95 8 (s.1 95 7)) s.2.2 := lf_fq_up (lf_fq_rf) rfl (fun h => absurd h (by decide))
      have b42 : (lf_up s.1 95 8 (s.1 95 7)) 95 7 = s.1 95 7 := lf_up_i (by omega)
      refine sm_198 hI40 (show (0 : Int) ≤ s.1 95 7 ∧ s.1 95 7 ≤ (300 : Int) from by omega) (fun r28 q43 => ?_)
      obtain ⟨q43, q43x⟩ := q43
      have b44 : 0 ≤ s.1 95 4 ∧ s.1 95 4 ≤ 300 := (show 0 ≤ (lf_up s.1 95 8 (s.1 95 7)) 95 4 ∧ (lf_up s.1 95 8 (s.1 95 7)) 95 4 ≤ 300 from iv_r95_4 hI40)
      have b45 : (lf_up s.1 95 8 (s.1 95 7)) 95 4 = s.1 95 4 := lf_up_i (by omega)
      replace q43x : (r28 = -1 ∧ (s.1 95 4) ≤ (s.1 95 7)) ∨ ((s.1 95 7) < (s.1 95 4) ∧ r28 = (s.1 99) (s.1 95 7)) := q43x
      refine ⟨(show lf_R r28 from lf_Rof (by omega)), ?_⟩
      refine ⟨fun c46 => ?_, fun c46 => ?_⟩
      · skip
        replace c46 : 0 ≤ r28 := c46
        refine sm_199 hI40 (show (-1 : Int) ≤ r28 ∧ r28 ≤ (255 : Int) from by omega) (fun z31 q47 => ?_)
        replace q47 : (z31 = true → (48 ≤ r28 ∧ r28 ≤ 57)) ∧ (z31 = false → ¬ (48 ≤ r28 ∧ r28 ≤ 57)) := q47
        refine ⟨fun c48 => ?_, fun c48 => ?_⟩
        · skip
          have dc48 := q47.2 c48
          refine sm_200 hI40 (show (-1 : Int) ≤ r28 ∧ r28 ≤ (255 : Int) from by omega) (fun z33 q49 => ?_)
          replace q49 : (z33 = true → ((97 ≤ r28 ∧ r28 ≤ 122) ∨ 65 ≤ r28 ∧ r28 ≤ 90)) ∧ (z33 = false → ¬ ((97 ≤ r28 ∧ r28 ≤ 122) ∨ 65 ≤ r28 ∧ r28 ≤ 90)) := q49
          refine ⟨fun c50 => ?_, fun c50 => ?_⟩
          · skip
            have dc50 := q49.2 c50
            refine sm_201 hI40 (show (0 : Int) ≤ r28 ∧ r28 ≤ (255 : Int) from by omega) (fun z35 => ?_)
            refine ⟨fun c52 => ?_, fun c52 => ?_⟩
            · skip
              have b53 : 0 ≤ s.1 95 12 ∧ s.1 95 12 ≤ 2115 := (show 0 ≤ (lf_up s.1 95 8 (s.1 95 7)) 95 12 ∧ (lf_up s.1 95 8 (s.1 95 7)) 95 12 ≤ 2115 from iv_r95_12 hI40)
              have b54 : (lf_up s.1 95 8 (s.1 95 7)) 95 12 = s.1 95 12 := lf_up_i (by omega)
              have b55 : 0 ≤ s.1 95 13 ∧ s.1 95 13 ≤ 304 := (show 0 ≤ (lf_up s.1 95 8 (s.1 95 7)) 95 13 ∧ (lf_up s.1 95 8 (s.1 95 7)) 95 13 ≤ 304 from iv_r95_13 hI40)
              have b56 : (lf_up s.1 95 8 (s.1 95 7)) 95 13 = s.1 95 13 := lf_up_i (by omega)
              have b57 : 0 ≤ s.1 95 19 ∧ s.1 95 19 ≤ 160 := (show 0 ≤ (lf_up s.1 95 8 (s.1 95 7)) 95 19 ∧ (lf_up s.1 95 8 (s.1 95 7)) 95 19 ≤ 160 from iv_r95_19 hI40)
              have b58 : (lf_up s.1 95 8 (s.1 95 7)) 95 19 = s.1 95 19 := lf_up_i (by omega)
              have b59 : 0 ≤ s.1 95 20 ∧ s.1 95 20 ≤ 8 := (show 0 ≤ (lf_up s.1 95 8 (s.1 95 7)) 95 20 ∧ (lf_up s.1 95 8 (s.1 95 7)) 95 20 ≤ 8 from iv_r95_20 hI40)
              have b60 : (lf_up s.1 95 8 (s.1 95 7)) 95 20 = s.1 95 20 := lf_up_i (by omega)
              have b61 : 0 ≤ s.1 95 21 ∧ s.1 95 21 ≤ 8 := (show 0 ≤ (lf_up s.1 95 8 (s.1 95 7)) 95 21 ∧ (lf_up s.1 95 8 (s.1 95 7)) 95 21 ≤ 8 from iv_r95_21 hI40)
              have b62 : (lf_up s.1 95 8 (s.1 95 7)) 95 21 = s.1 95 21 := lf_up_i (by omega)
              have b63 : 0 ≤ s.1 95 22 ∧ s.1 95 22 ≤ 80 := (show 0 ≤ (lf_up s.1 95 8 (s.1 95 7)) 95 22 ∧ (lf_up s.1 95 8 (s.1 95 7)) 95 22 ≤ 80 from iv_r95_22 hI40)
              have b64 : (lf_up s.1 95 8 (s.1 95 7)) 95 22 = s.1 95 22 := lf_up_i (by omega)
              have b65 : 0 ≤ s.1 95 23 ∧ s.1 95 23 ≤ 1 := (show 0 ≤ (lf_up s.1 95 8 (s.1 95 7)) 95 23 ∧ (lf_up s.1 95 8 (s.1 95 7)) 95 23 ≤ 1 from iv_r95_23 hI40)
              have b66 : (lf_up s.1 95 8 (s.1 95 7)) 95 23 = s.1 95 23 := lf_up_i (by omega)
              exact sm_197_p247 (s0 := s0) (fun t9 i9 f9 => hQ t9 i9 (lf_fq_tr fr41 f9)) hI40 (show (0 : Int) ≤ r28 ∧ r28 ≤ (255 : Int) from by omega) (show (0 : Int) ≤ 3 ∧ 3 ≤ (255 : Int) from by omega) (show (s.1 95 7) < 300 from by omega) (show s0.1 95 7 ≤ (s.1 95 7) ∧ (s.1 95 7) ≤ (s.1 95 7) from by omega) (show (s.1 95 12) = s0.1 95 12 ∧ (s.1 95 13) = s0.1 95 13 ∧ (s.1 95 19) = s0.1 95 19 ∧ (s.1 95 20) = s0.1 95 20 ∧ (s.1 95 21) = s0.1 95 21 ∧ (s.1 95 22) = s0.1 95 22 ∧ (s.1 95 23) = s0.1 95 23 from by omega)
            · skip
              have b150 : 0 ≤ s.1 95 12 ∧ s.1 95 12 ≤ 2115 := (show 0 ≤ (lf_up s.1 95 8 (s.1 95 7)) 95 12 ∧ (lf_up s.1 95 8 (s.1 95 7)) 95 12 ≤ 2115 from iv_r95_12 hI40)
              have b151 : (lf_up s.1 95 8 (s.1 95 7)) 95 12 = s.1 95 12 := lf_up_i (by omega)
              have b152 : 0 ≤ s.1 95 13 ∧ s.1 95 13 ≤ 304 := (show 0 ≤ (lf_up s.1 95 8 (s.1 95 7)) 95 13 ∧ (lf_up s.1 95 8 (s.1 95 7)) 95 13 ≤ 304 from iv_r95_13 hI40)
              have b153 : (lf_up s.1 95 8 (s.1 95 7)) 95 13 = s.1 95 13 := lf_up_i (by omega)
              have b154 : 0 ≤ s.1 95 19 ∧ s.1 95 19 ≤ 160 := (show 0 ≤ (lf_up s.1 95 8 (s.1 95 7)) 95 19 ∧ (lf_up s.1 95 8 (s.1 95 7)) 95 19 ≤ 160 from iv_r95_19 hI40)
              have b155 : (lf_up s.1 95 8 (s.1 95 7)) 95 19 = s.1 95 19 := lf_up_i (by omega)
              have b156 : 0 ≤ s.1 95 20 ∧ s.1 95 20 ≤ 8 := (show 0 ≤ (lf_up s.1 95 8 (s.1 95 7)) 95 20 ∧ (lf_up s.1 95 8 (s.1 95 7)) 95 20 ≤ 8 from iv_r95_20 hI40)
              have b157 : (lf_up s.1 95 8 (s.1 95 7)) 95 20 = s.1 95 20 := lf_up_i (by omega)
              have b158 : 0 ≤ s.1 95 21 ∧ s.1 95 21 ≤ 8 := (show 0 ≤ (lf_up s.1 95 8 (s.1 95 7)) 95 21 ∧ (lf_up s.1 95 8 (s.1 95 7)) 95 21 ≤ 8 from iv_r95_21 hI40)
              have b159 : (lf_up s.1 95 8 (s.1 95 7)) 95 21 = s.1 95 21 := lf_up_i (by omega)
              have b160 : 0 ≤ s.1 95 22 ∧ s.1 95 22 ≤ 80 := (show 0 ≤ (lf_up s.1 95 8 (s.1 95 7)) 95 22 ∧ (lf_up s.1 95 8 (s.1 95 7)) 95 22 ≤ 80 from iv_r95_22 hI40)
              have b161 : (lf_up s.1 95 8 (s.1 95 7)) 95 22 = s.1 95 22 := lf_up_i (by omega)
              have b162 : 0 ≤ s.1 95 23 ∧ s.1 95 23 ≤ 1 := (show 0 ≤ (lf_up s.1 95 8 (s.1 95 7)) 95 23 ∧ (lf_up s.1 95 8 (s.1 95 7)) 95 23 ≤ 1 from iv_r95_23 hI40)
              have b163 : (lf_up s.1 95 8 (s.1 95 7)) 95 23 = s.1 95 23 := lf_up_i (by omega)
              exact sm_197_p247 (s0 := s0) (fun t9 i9 f9 => hQ t9 i9 (lf_fq_tr fr41 f9)) hI40 (show (0 : Int) ≤ r28 ∧ r28 ≤ (255 : Int) from by omega) (show (0 : Int) ≤ r28 ∧ r28 ≤ (255 : Int) from by omega) (show (s.1 95 7) < 300 from by omega) (show s0.1 95 7 ≤ (s.1 95 7) ∧ (s.1 95 7) ≤ (s.1 95 7) from by omega) (show (s.1 95 12) = s0.1 95 12 ∧ (s.1 95 13) = s0.1 95 13 ∧ (s.1 95 19) = s0.1 95 19 ∧ (s.1 95 20) = s0.1 95 20 ∧ (s.1 95 21) = s0.1 95 21 ∧ (s.1 95 22) = s0.1 95 22 ∧ (s.1 95 23) = s0.1 95 23 from by omega)
          · skip
            have dc50 := q49.1 c50
            have hI164 : iv_A (lf_up (lf_up s.1 95 8 (s.1 95 7)) 95 9 2) s.2.2 := iv_w95_9 hI40 (by omega)
            have fr165 : lf_fq [95] 1000000 true s.1 s.2.2 (lf_up (lf_up s.1 95 8 (s.1 95 7)) 95 9 2) s.2.2 := lf_fq_up fr41 rfl (fun h => absurd h (by decide))
            have b166 : (lf_up (lf_up s.1 95 8 (s.1 95 7)) 95 9 2) 95 7 = (lf_up s.1 95 8 (s.1 95 7)) 95 7 := lf_up_i (by omega)
            have b167 : 0 ≤ s.1 95 4 ∧ s.1 95 4 ≤ 300 := (show 0 ≤ (lf_up (lf_up s.1 95 8 (s.1 95 7)) 95 9 2) 95 4 ∧ (lf_up (lf_up s.1 95 8 (s.1 95 7)) 95 9 2) 95 4 ≤ 300 from iv_r95_4 hI164)
            have b168 : (lf_up (lf_up s.1 95 8 (s.1 95 7)) 95 9 2) 95 4 = (lf_up s.1 95 8 (s.1 95 7)) 95 4 := lf_up_i (by omega)
            have b169 : (lf_up s.1 95 8 (s.1 95 7)) 95 4 = s.1 95 4 := lf_up_i (by omega)
            have b170 : 0 ≤ s.1 95 12 ∧ s.1 95 12 ≤ 2115 := (show 0 ≤ (lf_up (lf_up s.1 95 8 (s.1 95 7)) 95 9 2) 95 12 ∧ (lf_up (lf_up s.1 95 8 (s.1 95 7)) 95 9 2) 95 12 ≤ 2115 from iv_r95_12 hI164)
            have b171 : (lf_up (lf_up s.1 95 8 (s.1 95 7)) 95 9 2) 95 12 = (lf_up s.1 95 8 (s.1 95 7)) 95 12 := lf_up_i (by omega)
            have b172 : (lf_up s.1 95 8 (s.1 95 7)) 95 12 = s.1 95 12 := lf_up_i (by omega)
            have b173 : 0 ≤ s.1 95 13 ∧ s.1 95 13 ≤ 304 := (show 0 ≤ (lf_up (lf_up s.1 95 8 (s.1 95 7)) 95 9 2) 95 13 ∧ (lf_up (lf_up s.1 95 8 (s.1 95 7)) 95 9 2) 95 13 ≤ 304 from iv_r95_13 hI164)
            have b174 : (lf_up (lf_up s.1 95 8 (s.1 95 7)) 95 9 2) 95 13 = (lf_up s.1 95 8 (s.1 95 7)) 95 13 := lf_up_i (by omega)
            have b175 : (lf_up s.1 95 8 (s.1 95 7)) 95 13 = s.1 95 13 := lf_up_i (by omega)
            have b176 : 0 ≤ s.1 95 19 ∧ s.1 95 19 ≤ 160 := (show 0 ≤ (lf_up (lf_up s.1 95 8 (s.1 95 7)) 95 9 2) 95 19 ∧ (lf_up (lf_up s.1 95 8 (s.1 95 7)) 95 9 2) 95 19 ≤ 160 from iv_r95_19 hI164)
            have b177 : (lf_up (lf_up s.1 95 8 (s.1 95 7)) 95 9 2) 95 19 = (lf_up s.1 95 8 (s.1 95 7)) 95 19 := lf_up_i (by omega)
            have b178 : (lf_up s.1 95 8 (s.1 95 7)) 95 19 = s.1 95 19 := lf_up_i (by omega)
            have b179 : 0 ≤ s.1 95 20 ∧ s.1 95 20 ≤ 8 := (show 0 ≤ (lf_up (lf_up s.1 95 8 (s.1 95 7)) 95 9 2) 95 20 ∧ (lf_up (lf_up s.1 95 8 (s.1 95 7)) 95 9 2) 95 20 ≤ 8 from iv_r95_20 hI164)
            have b180 : (lf_up (lf_up s.1 95 8 (s.1 95 7)) 95 9 2) 95 20 = (lf_up s.1 95 8 (s.1 95 7)) 95 20 := lf_up_i (by omega)
            have b181 : (lf_up s.1 95 8 (s.1 95 7)) 95 20 = s.1 95 20 := lf_up_i (by omega)
            have b182 : 0 ≤ s.1 95 21 ∧ s.1 95 21 ≤ 8 := (show 0 ≤ (lf_up (lf_up s.1 95 8 (s.1 95 7)) 95 9 2) 95 21 ∧ (lf_up (lf_up s.1 95 8 (s.1 95 7)) 95 9 2) 95 21 ≤ 8 from iv_r95_21 hI164)
            have b183 : (lf_up (lf_up s.1 95 8 (s.1 95 7)) 95 9 2) 95 21 = (lf_up s.1 95 8 (s.1 95 7)) 95 21 := lf_up_i (by omega)
            have b184 : (lf_up s.1 95 8 (s.1 95 7)) 95 21 = s.1 95 21 := lf_up_i (by omega)
            have b185 : 0 ≤ s.1 95 22 ∧ s.1 95 22 ≤ 80 := (show 0 ≤ (lf_up (lf_up s.1 95 8 (s.1 95 7)) 95 9 2) 95 22 ∧ (lf_up (lf_up s.1 95 8 (s.1 95 7)) 95 9 2) 95 22 ≤ 80 from iv_r95_22 hI164)
            have b186 : (lf_up (lf_up s.1 95 8 (s.1 95 7)) 95 9 2) 95 22 = (lf_up s.1 95 8 (s.1 95 7)) 95 22 := lf_up_i (by omega)
            have b187 : (lf_up s.1 95 8 (s.1 95 7)) 95 22 = s.1 95 22 := lf_up_i (by omega)
            have b188 : 0 ≤ s.1 95 23 ∧ s.1 95 23 ≤ 1 := (show 0 ≤ (lf_up (lf_up s.1 95 8 (s.1 95 7)) 95 9 2) 95 23 ∧ (lf_up (lf_up s.1 95 8 (s.1 95 7)) 95 9 2) 95 23 ≤ 1 from iv_r95_23 hI164)
            have b189 : (lf_up (lf_up s.1 95 8 (s.1 95 7)) 95 9 2) 95 23 = (lf_up s.1 95 8 (s.1 95 7)) 95 23 := lf_up_i (by omega)
            have b190 : (lf_up s.1 95 8 (s.1 95 7)) 95 23 = s.1 95 23 := lf_up_i (by omega)
            exact sm_197_p168L (s0 := s0) (fun t9 i9 f9 => hQ t9 i9 (lf_fq_tr fr165 f9)) hI164 (show s0.1 95 7 ≤ (s.1 95 7) ∧ (s.1 95 7) ≤ (s.1 95 7) from by omega) (show (s.1 95 7) < (s.1 95 7) ∨ ((s.1 95 7) < (s.1 95 4) ∧ ((97 ≤ (s.1 99) ((s.1 95 7)) ∧ (s.1 99) ((s.1 95 7)) ≤ 122) ∨ (65 ≤ (s.1 99) ((s.1 95 7)) ∧ (s.1 99) ((s.1 95 7)) ≤ 90))) from by omega) (show (s.1 95 12) = s0.1 95 12 ∧ (s.1 95 13) = s0.1 95 13 ∧ (s.1 95 19) = s0.1 95 19 ∧ (s.1 95 20) = s0.1 95 20 ∧ (s.1 95 21) = s0.1 95 21 ∧ (s.1 95 22) = s0.1 95 22 ∧ (s.1 95 23) = s0.1 95 23 from by omega)
        · skip
          have dc48 := q47.1 c48
          have hI236 : iv_A (lf_up (lf_up s.1 95 8 (s.1 95 7)) 95 9 1) s.2.2 := iv_w95_9 hI40 (by omega)
          have fr237 : lf_fq [95] 1000000 true s.1 s.2.2 (lf_up (lf_up s.1 95 8 (s.1 95 7)) 95 9 1) s.2.2 := lf_fq_up fr41 rfl (fun h => absurd h (by decide))
          have hI238 : iv_A (lf_up (lf_up (lf_up s.1 95 8 (s.1 95 7)) 95 9 1) 95 10 0) s.2.2 := iv_w95_10 hI236 (by omega)
          have fr239 : lf_fq [95] 1000000 true s.1 s.2.2 (lf_up (lf_up (lf_up s.1 95 8 (s.1 95 7)) 95 9 1) 95 10 0) s.2.2 := lf_fq_up fr237 rfl (fun h => absurd h (by decide))
          have b240 : (lf_up (lf_up (lf_up s.1 95 8 (s.1 95 7)) 95 9 1) 95 10 0) 95 7 = (lf_up (lf_up s.1 95 8 (s.1 95 7)) 95 9 1) 95 7 := lf_up_i (by omega)
          have b241 : (lf_up (lf_up s.1 95 8 (s.1 95 7)) 95 9 1) 95 7 = (lf_up s.1 95 8 (s.1 95 7)) 95 7 := lf_up_i (by omega)
          have b242 : 0 ≤ s.1 95 4 ∧ s.1 95 4 ≤ 300 := (show 0 ≤ (lf_up (lf_up (lf_up s.1 95 8 (s.1 95 7)) 95 9 1) 95 10 0) 95 4 ∧ (lf_up (lf_up (lf_up s.1 95 8 (s.1 95 7)) 95 9 1) 95 10 0) 95 4 ≤ 300 from iv_r95_4 hI238)
          have b243 : (lf_up (lf_up (lf_up s.1 95 8 (s.1 95 7)) 95 9 1) 95 10 0) 95 4 = (lf_up (lf_up s.1 95 8 (s.1 95 7)) 95 9 1) 95 4 := lf_up_i (by omega)
          have b244 : (lf_up (lf_up s.1 95 8 (s.1 95 7)) 95 9 1) 95 4 = (lf_up s.1 95 8 (s.1 95 7)) 95 4 := lf_up_i (by omega)
          have b245 : (lf_up s.1 95 8 (s.1 95 7)) 95 4 = s.1 95 4 := lf_up_i (by omega)
          have b246 : 0 ≤ s.1 95 12 ∧ s.1 95 12 ≤ 2115 := (show 0 ≤ (lf_up (lf_up (lf_up s.1 95 8 (s.1 95 7)) 95 9 1) 95 10 0) 95 12 ∧ (lf_up (lf_up (lf_up s.1 95 8 (s.1 95 7)) 95 9 1) 95 10 0) 95 12 ≤ 2115 from iv_r95_12 hI238)
          have b247 : (lf_up (lf_up (lf_up s.1 95 8 (s.1 95 7)) 95 9 1) 95 10 0) 95 12 = (lf_up (lf_up s.1 95 8 (s.1 95 7)) 95 9 1) 95 12 := lf_up_i (by omega)
          have b248 : (lf_up (lf_up s.1 95 8 (s.1 95 7)) 95 9 1) 95 12 = (lf_up s.1 95 8 (s.1 95 7)) 95 12 := lf_up_i (by omega)
          have b249 : (lf_up s.1 95 8 (s.1 95 7)) 95 12 = s.1 95 12 := lf_up_i (by omega)
          have b250 : 0 ≤ s.1 95 13 ∧ s.1 95 13 ≤ 304 := (show 0 ≤ (lf_up (lf_up (lf_up s.1 95 8 (s.1 95 7)) 95 9 1) 95 10 0) 95 13 ∧ (lf_up (lf_up (lf_up s.1 95 8 (s.1 95 7)) 95 9 1) 95 10 0) 95 13 ≤ 304 from iv_r95_13 hI238)
          have b251 : (lf_up (lf_up (lf_up s.1 95 8 (s.1 95 7)) 95 9 1) 95 10 0) 95 13 = (lf_up (lf_up s.1 95 8 (s.1 95 7)) 95 9 1) 95 13 := lf_up_i (by omega)
          have b252 : (lf_up (lf_up s.1 95 8 (s.1 95 7)) 95 9 1) 95 13 = (lf_up s.1 95 8 (s.1 95 7)) 95 13 := lf_up_i (by omega)
          have b253 : (lf_up s.1 95 8 (s.1 95 7)) 95 13 = s.1 95 13 := lf_up_i (by omega)
          have b254 : 0 ≤ s.1 95 19 ∧ s.1 95 19 ≤ 160 := (show 0 ≤ (lf_up (lf_up (lf_up s.1 95 8 (s.1 95 7)) 95 9 1) 95 10 0) 95 19 ∧ (lf_up (lf_up (lf_up s.1 95 8 (s.1 95 7)) 95 9 1) 95 10 0) 95 19 ≤ 160 from iv_r95_19 hI238)
          have b255 : (lf_up (lf_up (lf_up s.1 95 8 (s.1 95 7)) 95 9 1) 95 10 0) 95 19 = (lf_up (lf_up s.1 95 8 (s.1 95 7)) 95 9 1) 95 19 := lf_up_i (by omega)
          have b256 : (lf_up (lf_up s.1 95 8 (s.1 95 7)) 95 9 1) 95 19 = (lf_up s.1 95 8 (s.1 95 7)) 95 19 := lf_up_i (by omega)
          have b257 : (lf_up s.1 95 8 (s.1 95 7)) 95 19 = s.1 95 19 := lf_up_i (by omega)
          have b258 : 0 ≤ s.1 95 20 ∧ s.1 95 20 ≤ 8 := (show 0 ≤ (lf_up (lf_up (lf_up s.1 95 8 (s.1 95 7)) 95 9 1) 95 10 0) 95 20 ∧ (lf_up (lf_up (lf_up s.1 95 8 (s.1 95 7)) 95 9 1) 95 10 0) 95 20 ≤ 8 from iv_r95_20 hI238)
          have b259 : (lf_up (lf_up (lf_up s.1 95 8 (s.1 95 7)) 95 9 1) 95 10 0) 95 20 = (lf_up (lf_up s.1 95 8 (s.1 95 7)) 95 9 1) 95 20 := lf_up_i (by omega)
          have b260 : (lf_up (lf_up s.1 95 8 (s.1 95 7)) 95 9 1) 95 20 = (lf_up s.1 95 8 (s.1 95 7)) 95 20 := lf_up_i (by omega)
          have b261 : (lf_up s.1 95 8 (s.1 95 7)) 95 20 = s.1 95 20 := lf_up_i (by omega)
          have b262 : 0 ≤ s.1 95 21 ∧ s.1 95 21 ≤ 8 := (show 0 ≤ (lf_up (lf_up (lf_up s.1 95 8 (s.1 95 7)) 95 9 1) 95 10 0) 95 21 ∧ (lf_up (lf_up (lf_up s.1 95 8 (s.1 95 7)) 95 9 1) 95 10 0) 95 21 ≤ 8 from iv_r95_21 hI238)
          have b263 : (lf_up (lf_up (lf_up s.1 95 8 (s.1 95 7)) 95 9 1) 95 10 0) 95 21 = (lf_up (lf_up s.1 95 8 (s.1 95 7)) 95 9 1) 95 21 := lf_up_i (by omega)
          have b264 : (lf_up (lf_up s.1 95 8 (s.1 95 7)) 95 9 1) 95 21 = (lf_up s.1 95 8 (s.1 95 7)) 95 21 := lf_up_i (by omega)
          have b265 : (lf_up s.1 95 8 (s.1 95 7)) 95 21 = s.1 95 21 := lf_up_i (by omega)
          have b266 : 0 ≤ s.1 95 22 ∧ s.1 95 22 ≤ 80 := (show 0 ≤ (lf_up (lf_up (lf_up s.1 95 8 (s.1 95 7)) 95 9 1) 95 10 0) 95 22 ∧ (lf_up (lf_up (lf_up s.1 95 8 (s.1 95 7)) 95 9 1) 95 10 0) 95 22 ≤ 80 from iv_r95_22 hI238)
          have b267 : (lf_up (lf_up (lf_up s.1 95 8 (s.1 95 7)) 95 9 1) 95 10 0) 95 22 = (lf_up (lf_up s.1 95 8 (s.1 95 7)) 95 9 1) 95 22 := lf_up_i (by omega)
          have b268 : (lf_up (lf_up s.1 95 8 (s.1 95 7)) 95 9 1) 95 22 = (lf_up s.1 95 8 (s.1 95 7)) 95 22 := lf_up_i (by omega)
          have b269 : (lf_up s.1 95 8 (s.1 95 7)) 95 22 = s.1 95 22 := lf_up_i (by omega)
          have b270 : 0 ≤ s.1 95 23 ∧ s.1 95 23 ≤ 1 := (show 0 ≤ (lf_up (lf_up (lf_up s.1 95 8 (s.1 95 7)) 95 9 1) 95 10 0) 95 23 ∧ (lf_up (lf_up (lf_up s.1 95 8 (s.1 95 7)) 95 9 1) 95 10 0) 95 23 ≤ 1 from iv_r95_23 hI238)
          have b271 : (lf_up (lf_up (lf_up s.1 95 8 (s.1 95 7)) 95 9 1) 95 10 0) 95 23 = (lf_up (lf_up s.1 95 8 (s.1 95 7)) 95 9 1) 95 23 := lf_up_i (by omega)
          have b272 : (lf_up (lf_up s.1 95 8 (s.1 95 7)) 95 9 1) 95 23 = (lf_up s.1 95 8 (s.1 95 7)) 95 23 := lf_up_i (by omega)
          have b273 : (lf_up s.1 95 8 (s.1 95 7)) 95 23 = s.1 95 23 := lf_up_i (by omega)
          exact sm_197_p85L (s0 := s0) (fun t9 i9 f9 => hQ t9 i9 (lf_fq_tr fr239 f9)) hI238 (show s0.1 95 7 ≤ (s.1 95 7) ∧ (s.1 95 7) ≤ (s.1 95 7) from by omega) (show (s.1 95 7) < (s.1 95 7) ∨ ((s.1 95 7) < (s.1 95 4) ∧ 48 ≤ (s.1 99) ((s.1 95 7)) ∧ (s.1 99) ((s.1 95 7)) ≤ 57) from by omega) (show (s.1 95 12) = s0.1 95 12 ∧ (s.1 95 13) = s0.1 95 13 ∧ (s.1 95 19) = s0.1 95 19 ∧ (s.1 95 20) = s0.1 95 20 ∧ (s.1 95 21) = s0.1 95 21 ∧ (s.1 95 22) = s0.1 95 22 ∧ (s.1 95 23) = s0.1 95 23 from by omega)
      · skip
        replace c46 : ¬ (0 ≤ r28) := c46
        have hI335 : iv_A (lf_up (lf_up s.1 95 8 (s.1 95 7)) 95 9 0) s.2.2 := iv_w95_9 hI40 (by omega)
        have fr336 : lf_fq [95] 1000000 true s.1 s.2.2 (lf_up (lf_up s.1 95 8 (s.1 95 7)) 95 9 0) s.2.2 := lf_fq_up fr41 rfl (fun h => absurd h (by decide))
        exact hQ (lf_up (lf_up s.1 95 8 (s.1 95 7)) 95 9 0, s.2.1, s.2.2) hI335 fr336 (show s0.1 95 7 ≤ (s.1 95 7) ∧ (0 = 0 ∨ (s.1 95 7) < (s.1 95 7)) from by omega) (show (s.1 95 12) = s0.1 95 12 ∧ (s.1 95 13) = s0.1 95 13 ∧ (s.1 95 19) = s0.1 95 19 ∧ (s.1 95 20) = s0.1 95 20 ∧ (s.1 95 21) = s0.1 95 21 ∧ (s.1 95 22) = s0.1 95 22 ∧ (s.1 95 23) = s0.1 95 23 from by omega)
    · skip
      replace c39 : ¬ (r25 ≠ 10) := c39
      have b337 : 0 ≤ s.1 95 12 ∧ s.1 95 12 ≤ 2115 := iv_r95_12 hI
      have b338 : 0 ≤ s.1 95 13 ∧ s.1 95 13 ≤ 304 := iv_r95_13 hI
      have b339 : 0 ≤ s.1 95 19 ∧ s.1 95 19 ≤ 160 := iv_r95_19 hI
      have b340 : 0 ≤ s.1 95 20 ∧ s.1 95 20 ≤ 8 := iv_r95_20 hI
      have b341 : 0 ≤ s.1 95 21 ∧ s.1 95 21 ≤ 8 := iv_r95_21 hI
      have b342 : 0 ≤ s.1 95 22 ∧ s.1 95 22 ≤ 80 := iv_r95_22 hI
      have b343 : 0 ≤ s.1 95 23 ∧ s.1 95 23 ≤ 1 := iv_r95_23 hI
      exact sm_197_p26 (s0 := s0) hQ hX0 (show (300 - (s.1 95 7)).toNat ≤ M0 from by omega) hI (show (s.1 95 7) < 300 from by omega) (show s0.1 95 7 ≤ (s.1 95 7) from by omega) (show (s.1 95 12) = s0.1 95 12 ∧ (s.1 95 13) = s0.1 95 13 ∧ (s.1 95 19) = s0.1 95 19 ∧ (s.1 95 20) = s0.1 95 20 ∧ (s.1 95 21) = s0.1 95 21 ∧ (s.1 95 22) = s0.1 95 22 ∧ (s.1 95 23) = s0.1 95 23 from by omega)
theorem sm_197_p0L {Q : lf_Z → Prop} {s : lf_Z} {s0 : lf_Z} (hQ : ∀  (s' : lf_Z), iv_A s'.1 s'.2.2 → lf_fq [95] 1000000 true s.1 s.2.2 s'.1 s'.2.2 → (s0.1 95 7 ≤ s'.1 95 8 ∧ (s'.1 95 9 = 0 ∨ s'.1 95 8 < s'.1 95 7)) → (s'.1 95 12 = s0.1 95 12 ∧ s'.1 95 13 = s0.1 95 13 ∧ s'.1 95 19 = s0.1 95 19 ∧ s'.1 95 20 = s0.1 95 20 ∧ s'.1 95 21 = s0.1 95 21 ∧ s'.1 95 22 = s0.1 95 22 ∧ s'.1 95 23 = s0.1 95 23) → Q  s') (hI : iv_A s.1 s.2.2) (kv0 : s0.1 95 7 ≤ s.1 95 7) (kv1 : s.1 95 12 = s0.1 95 12 ∧ s.1 95 13 = s0.1 95 13 ∧ s.1 95 19 = s0.1 95 19 ∧ s.1 95 20 = s0.1 95 20 ∧ s.1 95 21 = s0.1 95 21 ∧ s.1 95 22 = s0.1 95 22 ∧ s.1 95 23 = s0.1 95 23) : fm_197_p0L Q s := by
  intro X0 hX
  have key : ∀ (m9 : Nat) (s' : lf_Z), iv_A s'.1 s'.2.2 → lf_fq [95] 1000000 true s.1 s.2.2 s'.1 s'.2.2 → (s0.1 95 7 ≤ s'.1 95 7) → (s'.1 95 12 = s0.1 95 12 ∧ s'.1 95 13 = s0.1 95 13 ∧ s'.1 95 19 = s0.1 95 19 ∧ s'.1 95 20 = s0.1 95 20 ∧ s'.1 95 21 = s0.1 95 21 ∧ s'.1 95 22 = s0.1 95 22 ∧ s'.1 95 23 = s0.1 95 23) → (300 - s'.1 95 7).toNat < m9 → X0 s' := by
    intro m9
    induction m9 with
    | zero => intro  s' _ _ kv0 kv1 h9; exact absurd h9 (Nat.not_lt_zero _)
    | succ m9 ih => intro  s' i7 f7 kv0 kv1 h9; exact hX  _ (sm_197_p0 (s0 := s0) (fun t9 i9 f9 => hQ t9 i9 (lf_fq_tr f7 f9))   (fun  t8 i8 f8 kv0' kv1' h8 => ih  t8 i8 (lf_fq_tr f7 f8) kv0' kv1' (by omega)) (Nat.le_refl _)  i7    kv0 kv1)
  exact key _  s hI lf_fq_rf kv0 kv1 (Nat.lt_succ_self _)
theorem sm_197 {Q : lf_Z → Prop} {s : lf_Z} (hI : iv_A s.1 s.2.2) (hQ : ∀  (s' : lf_Z), iv_A s'.1 s'.2.2 → lf_fq [95] 1000000 true s.1 s.2.2 s'.1 s'.2.2 → (s.1 95 7 ≤ s'.1 95 8 ∧ (s'.1 95 9 = 0 ∨ s'.1 95 8 < s'.1 95 7)) → (s'.1 95 12 = s.1 95 12 ∧ s'.1 95 13 = s.1 95 13 ∧ s'.1 95 19 = s.1 95 19 ∧ s'.1 95 20 = s.1 95 20 ∧ s'.1 95 21 = s.1 95 21 ∧ s'.1 95 22 = s.1 95 22 ∧ s'.1 95 23 = s.1 95 23) → Q  s') : fm_197 Q s := by
  unfold fm_197
  have b1 : 0 ≤ s.1 95 7 ∧ s.1 95 7 ≤ 300 := iv_r95_7 hI
  have b2 : 0 ≤ s.1 95 12 ∧ s.1 95 12 ≤ 2115 := iv_r95_12 hI
  have b3 : 0 ≤ s.1 95 13 ∧ s.1 95 13 ≤ 304 := iv_r95_13 hI
  have b4 : 0 ≤ s.1 95 19 ∧ s.1 95 19 ≤ 160 := iv_r95_19 hI
  have b5 : 0 ≤ s.1 95 20 ∧ s.1 95 20 ≤ 8 := iv_r95_20 hI
  have b6 : 0 ≤ s.1 95 21 ∧ s.1 95 21 ≤ 8 := iv_r95_21 hI
  have b7 : 0 ≤ s.1 95 22 ∧ s.1 95 22 ≤ 80 := iv_r95_22 hI
  have b8 : 0 ≤ s.1 95 23 ∧ s.1 95 23 ≤ 1 := iv_r95_23 hI
  exact sm_197_p0L (s0 := s) hQ hI (show s.1 95 7 ≤ (s.1 95 7) from by omega) (show (s.1 95 12) = s.1 95 12 ∧ (s.1 95 13) = s.1 95 13 ∧ (s.1 95 19) = s.1 95 19 ∧ (s.1 95 20) = s.1 95 20 ∧ (s.1 95 21) = s.1 95 21 ∧ (s.1 95 22) = s.1 95 22 ∧ (s.1 95 23) = s.1 95 23 from by omega)
