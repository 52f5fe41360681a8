section IVB
variable {I : Nat → Int → Int} {P : Nat → Option Nat} {c c0 c1 : Nat} {i v : Int}
theorem lf_m39 {q r m : Int} (e : m = 39 * q + r) (h : 0 ≤ r ∧ r < 39) : m % 39 = r := by
  rw [e, Int.add_comm, Int.add_mul_emod_self_left]
  exact Int.emod_eq_of_lt h.1 h.2
theorem iv_cp23_21 {p q n : Int} (h : iv_A I P) : iv_A (lf_cp I 23 21 p q n) P := iv_copy h rfl (fun _ k => iv_s_F k)
theorem iv_wp96_96 {k : Int} (h : iv_A I P) (hp : (iv_a i).1 ≤ (iv_a k).1 ∧ (iv_a k).2 ≤ (iv_a i).2) (hr : i < 3 ∨ i = 9 ∨ (50 ≤ i ∧ i < 114 ∧ (i - 50) % 4 < 2) ∨ i = 114 ∨ i = 117 ∨ i = 120 ∨ i = 123 ∨ (278 ≤ i ∧ i < 278 + 42 * I 96 9) → iv_l (lf_up I 96 i (I 96 k)) 96) : iv_A (lf_up I 96 i (I 96 k)) P := iv_w96' h (lf_le2 hp (h.1 96 k)) hr
theorem iv_sr23 {r j : Int} (h : iv_A I P) (e : i = 39 * r + 3 * j) (h0 : 0 ≤ j) (h1 : j < 4) : I 23 i ≤ 0 ∨ 0 ≤ I 23 (i + 1) := by
  subst e
  exact h.2.2.1.2.2.1 r j h0 h1
theorem iv_S23 {J : Nat → Int → Int} (h : iv_S I) (hr : ∀ a, a ≠ 23 → J a = I a) (hs : iv_sr J 23) : iv_S J := by
  refine ⟨?_, ?_, hs, ?_, (by rw [hr 98 (by decide)]; exact h.2.2.2.2)⟩
  · unfold iv_sq; rw [hr 16 (by decide), hr 17 (by decide)]; exact h.1
  · unfold iv_sq; rw [hr 80 (by decide), hr 81 (by decide)]; exact h.2.1
  · unfold iv_sr; rw [hr 87 (by decide)]; exact h.2.2.2.1
theorem iv_wd23 (h : iv_A I P) (hv : (iv_s i).1 ≤ v ∧ v ≤ (iv_s i).2) (hr : 12 ≤ i % 39) : iv_A (lf_up I 23 i v) P := by
  refine ⟨iv_up h.1 hv, h.2.1, iv_S23 h.2.2.1 (fun a ha => lf_up_row ha) ?_, ?_, ?_⟩
  · intro r j h0 h1
    rw [lf_up_i (by omega), lf_up_i (by omega)]
    exact h.2.2.1.2.2.1 r j h0 h1
  · unfold iv_l; rw [lf_up_row (by decide)]; exact h.2.2.2.1
  · unfold iv_l; rw [lf_up_row (by decide)]; exact h.2.2.2.2
theorem iv_cp21_23 {q : Int} (h : iv_A I P) (hq : q % 39 = 24) : iv_A (lf_cp I 21 23 0 q 12) P := by
  have row : ∀ a, a ≠ 23 → lf_cp I 21 23 0 q 12 a = I a := fun a ha => funext fun b => lf_cp_c ha
  have out : ∀ j, ¬ (q ≤ j ∧ j < q + 12) → lf_cp I 21 23 0 q 12 23 j = I 23 j := by
    intro j hj
    unfold lf_cp
    rw [if_neg (fun h9 => hj h9.2)]
  refine ⟨?_, h.2.1, iv_S23 h.2.2.1 row ?_, ?_, ?_⟩
  · intro a b
    by_cases hz : a = 23 ∧ q ≤ b ∧ b < q + 12
    · obtain ⟨rfl, hb⟩ := hz
      have e : lf_cp I 21 23 0 q 12 23 b = I 21 (0 + (b - q)) := by
        unfold lf_cp
        rw [if_pos ⟨rfl, hb⟩]
      rw [e]
      have f : (iv_s b).1 ≤ -2147483648 ∧ 2147483647 ≤ (iv_s b).2 := by
        unfold iv_s
        repeat' refine iv_itW (fun h => ?_) (fun h => ?_)
        all_goals first | exact ⟨by decide, by decide⟩ | (exfalso; omega)
      exact lf_le2 f (h.1 21 (0 + (b - q)))
    · have e : lf_cp I 21 23 0 q 12 a b = I a b := by
        unfold lf_cp
        rw [if_neg hz]
      rw [e]
      exact h.1 a b
  · intro r j h0 h1
    rw [out _ (by omega), out _ (by omega)]
    exact h.2.2.1.2.2.1 r j h0 h1
  · unfold iv_l; rw [row 96 (by decide)]; exact h.2.2.2.1
  · unfold iv_l; rw [row 97 (by decide)]; exact h.2.2.2.2
theorem iv_row3 {r j n p f : Int} (h : iv_A I P) (e : i = 39 * r + 3 * j) (h0 : 0 ≤ j) (h1 : j < 4) (hn : -2147483648 ≤ n ∧ n ≤ 2147483647) (hp : -1 ≤ p ∧ p ≤ 11) (hf : -1 ≤ f ∧ f ≤ 11) (hs : n ≤ 0 ∨ 0 ≤ p) (hi : 0 ≤ i ∧ i + 2 < 1170) : iv_A (lf_up (lf_up (lf_up I 23 i n) 23 (i + 1) p) 23 (i + 2) f) P := by
  have row : ∀ a, a ≠ 23 → lf_up (lf_up (lf_up I 23 i n) 23 (i + 1) p) 23 (i + 2) f a = I a := fun a ha => by rw [lf_up_row ha, lf_up_row ha, lf_up_row ha]
  have k : ∀ m v L H : Int, (iv_s m).1 ≤ L ∧ H ≤ (iv_s m).2 → L ≤ v ∧ v ≤ H → (iv_s m).1 ≤ v ∧ v ≤ (iv_s m).2 := fun m v L H a b => lf_le2 a b
  have f0 : (iv_s i).1 ≤ -2147483648 ∧ 2147483647 ≤ (iv_s i).2 := by
    unfold iv_s
    repeat' refine iv_itW (fun h => ?_) (fun h => ?_)
    all_goals first | exact ⟨by decide, by decide⟩ | (exfalso; omega)
  have f1 : (iv_s (i + 1)).1 ≤ -1 ∧ 11 ≤ (iv_s (i + 1)).2 := by
    unfold iv_s
    repeat' refine iv_itW (fun h => ?_) (fun h => ?_)
    all_goals exact ⟨by decide, by decide⟩
  have f2 : (iv_s (i + 2)).1 ≤ -1 ∧ 11 ≤ (iv_s (i + 2)).2 := by
    unfold iv_s
    repeat' refine iv_itW (fun h => ?_) (fun h => ?_)
    all_goals exact ⟨by decide, by decide⟩
  refine ⟨iv_up (c := 23) (iv_up (c := 23) (iv_up (c := 23) h.1 (lf_le2 f0 hn)) (lf_le2 f1 hp)) (lf_le2 f2 hf), h.2.1, iv_S23 h.2.2.1 row ?_, ?_, ?_⟩
  · intro r' j' h0' h1'
    have e2 : ∀ m, m ≠ i → m ≠ i + 1 → m ≠ i + 2 → lf_up (lf_up (lf_up I 23 i n) 23 (i + 1) p) 23 (i + 2) f 23 m = I 23 m := fun m a b c => by rw [lf_up_i c, lf_up_i b, lf_up_i a]
    by_cases hq : 39 * r' + 3 * j' = i
    · rw [hq, lf_up_i (by omega), lf_up_i (by omega), lf_up_s, lf_up_i (by omega), lf_up_s]
      exact hs
    · rw [e2 _ (by omega) (by omega) (by omega), e2 _ (by omega) (by omega) (by omega)]
      exact h.2.2.1.2.2.1 r' j' h0' h1'
  · unfold iv_l; rw [row 96 (by decide)]; exact h.2.2.2.1
  · unfold iv_l; rw [row 97 (by decide)]; exact h.2.2.2.2
theorem iv_put {j n p f : Int} (h : iv_A I P) (hn : -2147483648 ≤ n ∧ n ≤ 2147483647) (hp : -1 ≤ p ∧ p ≤ 11) (hf : -1 ≤ f ∧ f ≤ 11) (hs : n ≤ 0 ∨ 0 ≤ p) : iv_A (lf_up (lf_up (lf_up I 16 j n) 17 j p) 18 j f) P := by
  have h1 : iv_A (lf_up I 16 j 0) P := iv_w16 h (by omega) (by omega)
  have h2 : iv_A (lf_up (lf_up I 16 j 0) 17 j p) P := iv_w17 h1 hp (by rw [lf_up_s]; omega)
  have h3 : iv_A (lf_up (lf_up (lf_up I 16 j 0) 17 j p) 16 j n) P := iv_w16 h2 hn (by rw [lf_up_s]; exact hs)
  have e : lf_up (lf_up (lf_up I 16 j 0) 17 j p) 16 j n = lf_up (lf_up I 16 j n) 17 j p := by
    funext a b
    by_cases ha : a = 16
    · subst ha
      by_cases hb : b = j
      · subst hb; rw [lf_up_s, lf_up_c (by decide), lf_up_s]
      · rw [lf_up_i hb, lf_up_c (by decide), lf_up_i hb, lf_up_c (by decide), lf_up_i hb]
    · rw [lf_up_c ha]
      by_cases ha2 : a = 17
      · subst ha2
        by_cases hb : b = j
        · subst hb; rw [lf_up_s, lf_up_s]
        · rw [lf_up_i hb, lf_up_i hb, lf_up_c (by decide), lf_up_c (by decide)]
      · rw [lf_up_c ha2, lf_up_c ha2, lf_up_c ha, lf_up_c ha]
  rw [e] at h3
  exact iv_wr h3 rfl hf
theorem iv_cp2 {a b : Nat} (h : iv_A I P) (hq : a = 16 ∧ b = 80 ∨ a = 80 ∧ b = 16) : iv_A (lf_cp (lf_cp I a b 0 0 4) (a + 1) (b + 1) 0 0 4) P := by
  have cpE : ∀ {J : Nat → Int → Int} {x y : Nat} {j : Int}, lf_cp J x y 0 0 4 y j = if 0 ≤ j ∧ j < 4 then J x j else J y j := by
    intro J x y j
    unfold lf_cp
    by_cases hj : 0 ≤ j ∧ j < 0 + 4
    · rw [if_pos ⟨rfl, hj⟩, if_pos (by omega), show (0 : Int) + (j - 0) = j by omega]
    · rw [if_neg (fun h9 => hj h9.2), if_neg (by omega)]
  have row : ∀ c, c ≠ b → c ≠ b + 1 → lf_cp (lf_cp I a b 0 0 4) (a + 1) (b + 1) 0 0 4 c = I c := fun c h1 h2 => funext fun x => by rw [lf_cp_c h2, lf_cp_c h1]
  have ev : ∀ j, lf_cp (lf_cp I a b 0 0 4) (a + 1) (b + 1) 0 0 4 b j = if 0 ≤ j ∧ j < 4 then I a j else I b j := fun j => by rw [lf_cp_c (by omega), cpE]
  have ev2 : ∀ j, lf_cp (lf_cp I a b 0 0 4) (a + 1) (b + 1) 0 0 4 (b + 1) j = if 0 ≤ j ∧ j < 4 then I (a + 1) j else I (b + 1) j := by
    intro j
    rw [cpE]
    rcases hq with ⟨rfl, rfl⟩ | ⟨rfl, rfl⟩
    · rw [lf_cp_c (by decide), lf_cp_c (by decide)]
    · rw [lf_cp_c (by decide), lf_cp_c (by decide)]
  have hI : iv_I (lf_cp (lf_cp I a b 0 0 4) (a + 1) (b + 1) 0 0 4) := by
    intro c j
    by_cases h1 : c = b
    · subst h1
      rw [ev]
      by_cases hj : 0 ≤ j ∧ j < 4
      · rw [if_pos hj]
        rcases hq with ⟨rfl, rfl⟩ | ⟨rfl, rfl⟩
        · exact h.1 16 j
        · exact h.1 80 j
      · rw [if_neg hj]; exact h.1 c j
    · by_cases h2 : c = b + 1
      · subst h2
        rw [ev2]
        by_cases hj : 0 ≤ j ∧ j < 4
        · rw [if_pos hj]
          rcases hq with ⟨rfl, rfl⟩ | ⟨rfl, rfl⟩
          · exact h.1 17 j
          · exact h.1 81 j
        · rw [if_neg hj]; exact h.1 (b + 1) j
      · rw [row c h1 h2]; exact h.1 c j
  obtain ⟨s1, s2, s3, s4, s5⟩ := h.2.2.1
  rcases hq with ⟨rfl, rfl⟩ | ⟨rfl, rfl⟩
  · refine ⟨hI, h.2.1, ⟨?_, ?_, ?_, ?_, (by rw [row 98 (by decide) (by decide)]; exact s5)⟩, ?_, ?_⟩
    · unfold iv_sq; rw [row 16 (by decide) (by decide), row 17 (by decide) (by decide)]; exact s1
    · intro j h0 h1; rw [ev, ev2, if_pos ⟨h0, h1⟩, if_pos ⟨h0, h1⟩]; exact s1 j h0 h1
    · unfold iv_sr; rw [row 23 (by decide) (by decide)]; exact s3
    · unfold iv_sr; rw [row 87 (by decide) (by decide)]; exact s4
    · unfold iv_l; rw [row 96 (by decide) (by decide)]; exact h.2.2.2.1
    · unfold iv_l; rw [row 97 (by decide) (by decide)]; exact h.2.2.2.2
  · refine ⟨hI, h.2.1, ⟨?_, ?_, ?_, ?_, (by rw [row 98 (by decide) (by decide)]; exact s5)⟩, ?_, ?_⟩
    · intro j h0 h1; rw [ev, ev2, if_pos ⟨h0, h1⟩, if_pos ⟨h0, h1⟩]; exact s2 j h0 h1
    · unfold iv_sq; rw [row 80 (by decide) (by decide), row 81 (by decide) (by decide)]; exact s2
    · unfold iv_sr; rw [row 23 (by decide) (by decide)]; exact s3
    · unfold iv_sr; rw [row 87 (by decide) (by decide)]; exact s4
    · unfold iv_l; rw [row 96 (by decide) (by decide)]; exact h.2.2.2.1
    · unfold iv_l; rw [row 97 (by decide) (by decide)]; exact h.2.2.2.2
end IVB
theorem iv_copyAll {c d : Nat} (hcd : c = 96 ∧ d = 97 ∨ c = 97 ∧ d = 96) {I I' : Nat → Int → Int} {P : Nat → Option Nat} (h : iv_A I P) (hr : ∀ a, a ≠ d → I' a = I a) (hd : ∀ j : Int, 0 ≤ j → j < 1538 → I' d j = I c j) (ho : ∀ j : Int, ¬ (0 ≤ j ∧ j < 1538) → I' d j = I d j) : iv_A I' P := by
  have hI : iv_I I' := by
    intro a j
    by_cases ha : a = d
    · subst ha
      by_cases hj : 0 ≤ j ∧ j < 1538
      · rw [hd j hj.1 hj.2]
        rcases hcd with ⟨rfl, rfl⟩ | ⟨rfl, rfl⟩
        · exact h.1 96 j
        · exact h.1 97 j
      · rw [ho j hj]; exact h.1 a j
    · rw [hr a ha]; exact h.1 a j
  have hl : iv_l I' d := by
    refine ⟨?_, fun w h0 h1 h2 => ?_, ?_⟩
    · rw [hd 0 (by decide) (by decide), hd 1 (by decide) (by decide), hd 2 (by decide) (by decide)]
      rcases hcd with ⟨rfl, rfl⟩ | ⟨rfl, rfl⟩
      · exact h.2.2.2.1.1
      · exact h.2.2.2.2.1
    · rw [hd 1 (by decide) (by decide)] at h2
      rw [hd 0 (by decide) (by decide), hd _ (by omega) (by omega), hd _ (by omega) (by omega)]
      rcases hcd with ⟨rfl, rfl⟩ | ⟨rfl, rfl⟩
      · exact h.2.2.2.1.2.1 w h0 h1 h2
      · exact h.2.2.2.2.2.1 w h0 h1 h2
    · have q : ∀ {f : Int → Int}, f 9 ≤ 30 → iv_sz f → (∀ j : Int, 0 ≤ j → j < 1538 → I' d j = f j) → iv_sz (I' d) := by
        intro f h9 hz hf
        refine ⟨?_, fun r h0 h1 => ?_⟩
        · unfold iv_s4
          rw [hf _ (by omega) (by omega), hf _ (by omega) (by omega), hf _ (by omega) (by omega), hf _ (by omega) (by omega)]
          exact hz.1
        · rw [hf 9 (by decide) (by decide)] at h1
          unfold iv_s4
          rw [hf _ (by omega) (by omega), hf _ (by omega) (by omega), hf _ (by omega) (by omega), hf _ (by omega) (by omega)]
          exact hz.2 r h0 h1
      rcases hcd with ⟨rfl, rfl⟩ | ⟨rfl, rfl⟩
      · exact q (h.1 96 9).2 h.2.2.2.1.2.2 hd
      · exact q (h.1 97 9).2 h.2.2.2.2.2.2 hd
  have hS : iv_S I' := by
    rcases hcd with ⟨rfl, rfl⟩ | ⟨rfl, rfl⟩ <;> exact iv_Sc h.2.2.1 (hr _ (by decide)) (hr _ (by decide)) (hr _ (by decide)) (hr _ (by decide)) (hr _ (by decide)) (hr _ (by decide)) (hr _ (by decide))
  rcases hcd with ⟨rfl, rfl⟩ | ⟨rfl, rfl⟩
  · exact ⟨hI, h.2.1, hS, by unfold iv_l; rw [hr 96 (by decide)]; exact h.2.2.2.1, hl⟩
  · exact ⟨hI, h.2.1, hS, hl, by unfold iv_l; rw [hr 97 (by decide)]; exact h.2.2.2.2⟩
theorem lf_wlI {a : Int} : lf_wl (lf_wl a) = lf_wl a := by
  unfold lf_wl
  rw [Int64.ofInt_toInt]
theorem lf_wlR {a : Int} (h : -9223372036854775808 ≤ a ∧ a ≤ 9223372036854775807) : lf_wl a = a := Int64.toInt_ofInt_of_le h.1 (Int.lt_add_one_of_le h.2)
theorem lf_wlRL (a : Int) : -9223372036854775808 ≤ lf_wl a ∧ lf_wl a ≤ 9223372036854775807 := lf_RL_i _
theorem lf_hasN : ∀ a : Fin 64, ∀ b : Fin 32, 6 ≤ b.val → lf_and (lf_shr (a.val : Int) (b.val : Int)) 1 ≠ 1 := by decide +kernel
theorem lf_hasB {a b : Int} (h : lf_and (lf_shr a b) 1 = 1) : 64 ≤ a ∨ a < 0 ∨ b < 0 ∨ 31 < b ∨ b < 6 := by
  by_cases h1 : 0 ≤ a ∧ a < 64 ∧ 6 ≤ b ∧ b ≤ 31
  · obtain ⟨m, rfl⟩ := Int.eq_ofNat_of_zero_le h1.1
    obtain ⟨k, rfl⟩ := Int.eq_ofNat_of_zero_le (show 0 ≤ b by omega)
    exact absurd h (lf_hasN ⟨m, by omega⟩ ⟨k, by omega⟩ (by show 6 ≤ k; omega))
  · omega
theorem lf_andF {a b : Int} : -2147483648 ≤ lf_and a b ∧ lf_and a b ≤ 2147483647 := lf_R_i _
theorem iv_l96_1 {I : Nat → Int → Int} {P : Nat → Option Nat} (h : iv_A I P) : I 96 1 ≤ 0 ∨ 0 < I 96 0 := by
  have k : 0 < I 96 1 ∨ 0 < I 96 2 → 0 < I 96 0 := h.2.2.2.1.1
  by_cases h1 : 0 < I 96 1
  · exact Or.inr (k (Or.inl h1))
  · exact Or.inl (by omega)
theorem iv_l96_2 {I : Nat → Int → Int} {P : Nat → Option Nat} (h : iv_A I P) : I 96 2 ≤ 0 ∨ 0 < I 96 0 := by
  have k : 0 < I 96 1 ∨ 0 < I 96 2 → 0 < I 96 0 := h.2.2.2.1.1
  by_cases h1 : 0 < I 96 2
  · exact Or.inr (k (Or.inr h1))
  · exact Or.inl (by omega)
