/-! tokens: what stands at a place of the tape (f its bytes, n how many there are), for both readers -/
section LX
def lx_bl (c : Int) : Bool := decide (c = 32) || decide (c = 10)
def lx_dg (c : Int) : Bool := decide (48 ≤ c) && decide (c ≤ 57)
def lx_lt (c : Int) : Bool := (decide (97 ≤ c) && decide (c ≤ 122)) || (decide (65 ≤ c) && decide (c ≤ 90))
def lx_rn (P : Int → Bool) (f : Int → Int) (n : Int) : Nat → Int → Int
  | 0, p => p
  | k + 1, p => if p < n ∧ P (f p) = true then lx_rn P f n k (p + 1) else p
/-- the end of the run of bytes of a sort that begins at p -/
def lx_run (P : Int → Bool) (f : Int → Int) (n p : Int) : Int := lx_rn P f n (n - p).toNat p
variable {P : Int → Bool} {f : Int → Int} {n p : Int}
theorem lx_run_s (h : p < n) (hP : P (f p) = true) : lx_run P f n p = lx_run P f n (p + 1) := by
  unfold lx_run
  rw [show (n - p).toNat = (n - (p + 1)).toNat + 1 by omega]
  show (if p < n ∧ P (f p) = true then lx_rn P f n (n - (p + 1)).toNat (p + 1) else p) = _
  rw [if_pos ⟨h, hP⟩]
theorem lx_run_e (h : ¬ (p < n ∧ P (f p) = true)) : lx_run P f n p = p := by
  unfold lx_run
  cases hk : (n - p).toNat with
  | zero => rfl
  | succ k =>
    show (if p < n ∧ P (f p) = true then lx_rn P f n k (p + 1) else p) = _
    rw [if_neg h]
theorem lx_rnB : ∀ (k : Nat) (p : Int), p ≤ lx_rn P f n k p ∧ (p ≤ n → lx_rn P f n k p ≤ n) := by
  intro k
  induction k with
  | zero => exact fun p => ⟨Int.le_refl _, fun h => h⟩
  | succ k ih =>
    intro p
    show p ≤ (if p < n ∧ P (f p) = true then lx_rn P f n k (p + 1) else p) ∧ _
    by_cases h : p < n ∧ P (f p) = true
    · have e : lx_rn P f n (k + 1) p = lx_rn P f n k (p + 1) := if_pos h
      rw [e, if_pos h]
      have := ih (p + 1)
      exact ⟨by omega, fun _ => this.2 (by omega)⟩
    · have e : lx_rn P f n (k + 1) p = p := if_neg h
      rw [e, if_neg h]
      exact ⟨Int.le_refl _, fun h => h⟩
theorem lx_runB : p ≤ lx_run P f n p := (lx_rnB _ p).1
theorem lx_runN (h : p ≤ n) : lx_run P f n p ≤ n := (lx_rnB _ p).2 h
/-- the number that figures tell from p on, 10000 for more -/
def lx_nn (f : Int → Int) (n : Int) : Nat → Int → Int → Int
  | 0, _, v => v
  | k + 1, p, v => if p < n ∧ lx_dg (f p) = true then lx_nn f n k (p + 1) (min 10000 (v * 10 + f p - 48)) else v
def lx_num (f : Int → Int) (n p v : Int) : Int := lx_nn f n (n - p).toNat p v
theorem lx_num_s {v : Int} (h : p < n) (hP : lx_dg (f p) = true) : lx_num f n p v = lx_num f n (p + 1) (min 10000 (v * 10 + f p - 48)) := by
  unfold lx_num
  rw [show (n - p).toNat = (n - (p + 1)).toNat + 1 by omega]
  show (if p < n ∧ lx_dg (f p) = true then lx_nn f n (n - (p + 1)).toNat (p + 1) (min 10000 (v * 10 + f p - 48)) else v) = _
  rw [if_pos ⟨h, hP⟩]
theorem lx_num_e {v : Int} (h : ¬ (p < n ∧ lx_dg (f p) = true)) : lx_num f n p v = v := by
  unfold lx_num
  cases hk : (n - p).toNat with
  | zero => rfl
  | succ k =>
    show (if p < n ∧ lx_dg (f p) = true then lx_nn f n k (p + 1) (min 10000 (v * 10 + f p - 48)) else v) = _
    rw [if_neg h]
/-! words -/
def lx_WL : List (List Int) := [[112, 97, 99, 101], [116, 97, 107, 101, 115], [112, 97, 121, 115], [115, 116, 114, 101, 116, 99, 104], [119, 97, 121], [112, 97, 116, 104], [111, 110, 101], [115, 116, 114, 97, 121], [115, 101, 110, 100], [115, 104, 117, 116], [111, 112, 101, 110], [115, 112, 108, 105, 116], [109, 105, 110, 117, 116, 101], [104, 97, 114, 109], [116, 111], [97, 116], [98, 121], [105, 102], [116, 104, 101, 110], [101, 108, 115, 101], [101, 110, 100], [108, 101, 116], [98, 101], [105, 110], [110, 111, 116], [97, 110, 100], [111, 114], [115, 105, 122, 101], [112, 108, 97, 99, 101], [107, 105, 110, 100], [104, 101, 114, 101], [98, 101, 104, 105, 110, 100], [97, 104, 101, 97, 100], [115, 116, 111, 111, 100], [98, 117, 99, 107, 101, 116], [98, 97, 99, 107], [100, 111, 110, 101]]
def lx_ml (f : Int → Int) : List Int → Int → Bool
  | [], _ => true
  | c :: r, p => decide (f p = c) && lx_ml f r (p + 1)
def lx_m (f : Int → Int) (p e : Int) (w : List Int) : Bool := decide (e = p + w.length) && lx_ml f w p
def lx_wf (f : Int → Int) (p e : Int) : List (List Int) → Int → Int
  | [], _ => 1
  | w :: ws, k => if lx_m f p e w = true then k else lx_wf f p e ws (k + 1)
def lx_W (f : Int → Int) (p e : Int) : Int := lx_wf f p e lx_WL 20
def lx_wl (f : Int → Int) (p e : Int) : List Int → Int → Int → Bool → Int
  | [], _, _, _ => 1
  | c :: r, x1, x2, x3 => if c = 32 then (if x3 = true ∧ x2 = e then x1 else lx_wl f p e r (x1 + 1) p true) else lx_wl f p e r x1 (x2 + 1) (x3 && decide (x2 < e) && decide (f x2 = c))
theorem lx_wl1 {e : Int} {r : List Int} {x1 : Int} : ∀ (w : List Int) (x2 : Int) (x3 : Bool), w.all (fun c => decide (c ≠ 32)) = true → lx_wl f p e (w ++ 32 :: r) x1 x2 x3 = if x3 = true ∧ lx_ml f w x2 = true ∧ e = x2 + w.length then x1 else lx_wl f p e r (x1 + 1) p true := by
  intro w
  induction w with
  | nil =>
    intro x2 x3 _
    show (if (32 : Int) = 32 then (if x3 = true ∧ x2 = e then x1 else lx_wl f p e r (x1 + 1) p true) else _) = _
    rw [if_pos rfl]
    by_cases h : x3 = true ∧ x2 = e
    · rw [if_pos h, if_pos ⟨h.1, rfl, by show e = x2 + ((0 : Nat) : Int); omega⟩]
    · rw [if_neg h, if_neg (fun c => h ⟨c.1, by have := c.2.2; have : e = x2 + ((0 : Nat) : Int) := this; omega⟩)]
  | cons c w ih =>
    intro x2 x3 hw
    rw [List.all_cons, Bool.and_eq_true] at hw
    have hc : c ≠ 32 := of_decide_eq_true hw.1
    show (if c = 32 then _ else lx_wl f p e (w ++ 32 :: r) x1 (x2 + 1) (x3 && decide (x2 < e) && decide (f x2 = c))) = _
    rw [if_neg hc, ih _ _ hw.2]
    have el : ((c :: w).length : Int) = (w.length : Int) + 1 := by rw [List.length_cons]; omega
    rw [el]
    by_cases h : x3 = true ∧ lx_ml f (c :: w) x2 = true ∧ e = x2 + ((w.length : Int) + 1)
    · have hm : (decide (f x2 = c) && lx_ml f w (x2 + 1)) = true := h.2.1
      rw [Bool.and_eq_true] at hm
      rw [if_pos h, if_pos ⟨by rw [h.1, hm.1, decide_eq_true (show x2 < e by omega)]; rfl, hm.2, by omega⟩]
    · rw [if_neg h, if_neg (fun q => h ?_)]
      have q1 := q.1
      rw [Bool.and_eq_true, Bool.and_eq_true] at q1
      refine ⟨q1.1.1, ?_, by omega⟩
      show (decide (f x2 = c) && lx_ml f w (x2 + 1)) = true
      rw [q1.2, q.2.1]; rfl
theorem lx_wlW {e : Int} : ∀ (ws : List (List Int)) (k : Int), ws.all (fun w => w.all (fun c => decide (c ≠ 32))) = true → lx_wl f p e (ws.flatMap (fun w => w ++ [32])) k p true = lx_wf f p e ws k := by
  intro ws
  induction ws with
  | nil => intro k _; rfl
  | cons w ws ih =>
    intro k h
    rw [List.all_cons, Bool.and_eq_true] at h
    rw [List.flatMap_cons, List.append_assoc]
    show lx_wl f p e (w ++ 32 :: ws.flatMap (fun w => w ++ [32])) k p true = if lx_m f p e w = true then k else lx_wf f p e ws (k + 1)
    rw [lx_wl1 w p true h.1, ih _ h.2]
    unfold lx_m
    by_cases hm : lx_ml f w p = true ∧ e = p + w.length
    · rw [if_pos ⟨rfl, hm.1, hm.2⟩, if_pos (by rw [hm.1, decide_eq_true hm.2]; rfl)]
    · rw [if_neg (fun c => hm c.2), if_neg (fun c => hm ?_)]
      rw [Bool.and_eq_true] at c
      exact ⟨c.2, of_decide_eq_true c.1⟩
theorem lx_byt : ps_byt.map Int32.toInt = lx_WL.flatMap (fun w => w ++ [32]) := by decide +kernel
theorem lx_wlB {e : Int} : lx_wl f p e (ps_byt.map Int32.toInt) 20 p true = lx_W f p e := by
  rw [lx_byt]
  exact lx_wlW lx_WL 20 (by decide +kernel)
theorem lx_drop : ∀ k, k < 180 → (ps_byt.drop k).map Int32.toInt = (ps_byt.getD k 0).toInt :: (ps_byt.drop (k + 1)).map Int32.toInt := by decide +kernel
theorem lx_dropE {k : Nat} (h : 180 ≤ k) : (ps_byt.drop k).map Int32.toInt = [] := by
  rw [List.drop_eq_nil_of_le (show ps_byt.length ≤ k from h)]
  rfl
/-! the token at a place -/
def lx_sg (c d : Int) : Int := if c = 60 then (if d = 1 then 5 else 4) else if c = 62 then (if d = 1 then 7 else 6) else if c = 61 then 8 else if c = 35 then 9 else if c = 43 then 10 else if c = 45 then 11 else if c = 42 then 12 else if c = 47 then 13 else if c = 40 then 14 else if c = 41 then 15 else if c = 59 then 16 else 1
/-- whether a sign is one of two bytes -/
def lx_two (f : Int → Int) (n p : Int) : Bool := decide (p + 1 < n) && decide (f (p + 1) = 61) && (decide (f p = 60) || decide (f p = 62))
def lx_E (f : Int → Int) (n p : Int) : Int := if n ≤ p then p else if lx_dg (f p) = true then lx_run lx_dg f n p else if lx_lt (f p) = true then lx_run lx_lt f n p else if lx_two f n p = true then p + 2 else p + 1
def lx_T (f : Int → Int) (n p : Int) : Int := if n ≤ p then 0 else if lx_dg (f p) = true then 2 else if lx_lt (f p) = true then (if lx_run lx_lt f n p = p + 1 ∧ 97 ≤ f p then 3 else lx_W f p (lx_run lx_lt f n p)) else lx_sg (f p) (if lx_two f n p = true then 1 else 0)
def lx_V (f : Int → Int) (n p : Int) : Int := if lx_dg (f p) = true then lx_num f n p 0 else f p - 97
/-! the class's reader at a token -/
variable {s t : lf_Z}
section ZU
variable {F : Nat → Int → Int} {y : (Nat → Int → Int) × (Nat → Option Nat)} {a c : Nat} {i j v : Int}
theorem zu_s : ((lf_up F c i v, y) : lf_Z).1 c i = v := lf_up_s
theorem zu_i (h : j ≠ i) : ((lf_up F c i v, y) : lf_Z).1 c j = F c j := lf_up_i h
theorem zu_c (h : a ≠ c) : ((lf_up F c i v, y) : lf_Z).1 a j = F a j := lf_up_c h
theorem zu_r (h : a ≠ c) : ((lf_up F c i v, y) : lf_Z).1 a = F a := lf_up_row h
end ZU
def rd_F (s t : lf_Z) : Prop := (∀ c, c ≠ 31 → t.1 c = s.1 c) ∧ (∀ i, i ≠ 7 → i ≠ 8 → i ≠ 9 → i ≠ 10 → t.1 31 i = s.1 31 i) ∧ t.2 = s.2
theorem rd_Fr : rd_F s s := ⟨fun _ _ => rfl, fun _ _ _ _ _ => rfl, rfl⟩
theorem rd_Ft {r : lf_Z} (h : rd_F s t) (h2 : rd_F t r) : rd_F s r := ⟨fun c hc => (h2.1 c hc).trans (h.1 c hc), fun i a b c d => (h2.2.1 i a b c d).trans (h.2.1 i a b c d), h2.2.2.trans h.2.2⟩
theorem rd_Fu {i v : Int} (h : rd_F s t) (hi : i = 7 ∨ i = 8 ∨ i = 9 ∨ i = 10) : rd_F s (lf_up t.1 31 i v, t.2.1, t.2.2) := by
  refine ⟨fun c hc => ?_, fun j a b c d => ?_, h.2.2⟩
  · exact (zu_r hc).trans (h.1 c hc)
  · exact (zu_i (by omega)).trans (h.2.1 j a b c d)
def rd_at (s : lf_Z) (b : Int) : Prop := s.1 31 9 = b ∧ s.1 31 8 = lx_T (s.1 32) (s.1 31 1) b ∧ s.1 31 7 = lx_E (s.1 32) (s.1 31 1) b ∧ ((s.1 31 8 = 2 ∨ s.1 31 8 = 3) → s.1 31 10 = lx_V (s.1 32) (s.1 31 1) b)
theorem fl_32 {a : Int} {Q : Bool → lf_Z → Prop} (h : Q (lx_dg a) s) : fw_32 a Q s := by
  unfold fw_32
  intro _
  refine ⟨fun c => ?_, fun c => ⟨fun d => ?_, fun d => ?_⟩⟩
  · rw [show lx_dg a = false from by unfold lx_dg; rw [decide_eq_false (by omega)]; rfl] at h; exact h
  · rw [show lx_dg a = false from by unfold lx_dg; rw [decide_eq_false (show ¬ a ≤ 57 by omega), Bool.and_false]] at h; exact h
  · rw [show lx_dg a = true from by unfold lx_dg; rw [decide_eq_true (show 48 ≤ a by omega), decide_eq_true (show a ≤ 57 by omega)]; rfl] at h; exact h
theorem fl_34 {a : Int} {Q : Bool → lf_Z → Prop} (h : Q (lx_lt a) s) : fw_34 a Q s := by
  have e : ∀ b : Bool, ((97 ≤ a ∧ a ≤ 122) ∨ (65 ≤ a ∧ a ≤ 90) ↔ b = true) → lx_lt a = b := by
    intro b hb
    unfold lx_lt
    cases b with
    | true =>
      rcases hb.mpr rfl with q | q
      · rw [decide_eq_true q.1, decide_eq_true q.2]; rfl
      · rw [decide_eq_true q.1, decide_eq_true q.2]; simp
    | false =>
      cases hx : ((decide (97 ≤ a) && decide (a ≤ 122)) || (decide (65 ≤ a) && decide (a ≤ 90))) with
      | false => rfl
      | true =>
        rw [Bool.or_eq_true, Bool.and_eq_true, Bool.and_eq_true, decide_eq_true_eq, decide_eq_true_eq, decide_eq_true_eq, decide_eq_true_eq] at hx
        exact absurd (hb.mp hx) (by decide)
  have p12 : ¬ (97 ≤ a ∧ a ≤ 122) → fw_34_p12 Q a s := by
    intro hn
    unfold fw_34_p12
    intro _
    refine ⟨fun c => ?_, fun c => ⟨fun d => ?_, fun d => ?_⟩⟩
    · rw [e false ⟨fun q => by omega, fun q => by cases q⟩] at h; exact h
    · rw [e false ⟨fun q => by omega, fun q => by cases q⟩] at h; exact h
    · rw [e true ⟨fun _ => rfl, fun _ => by omega⟩] at h; exact h
  unfold fw_34
  intro _
  refine ⟨fun c => p12 (by omega), fun c => ⟨fun d => ?_, fun d => p12 (by omega)⟩⟩
  rw [e true ⟨fun _ => rfl, fun _ => by omega⟩] at h; exact h
theorem fl_upS {I : Nat → Int → Int} {c : Nat} {i : Int} : lf_up I c i (I c i) = I := by
  funext a b
  unfold lf_up
  by_cases h : a = c
  · subst h
    rw [if_pos rfl]
    by_cases g : b = i
    · subst g; rw [if_pos rfl]
    · rw [if_neg g]
  · rw [if_neg h]
/-- a number is read to its end -/
theorem fl_33 {Q : lf_Z → Prop} (h : ∀ t : lf_Z, rd_F s t → t.1 31 9 = s.1 31 9 → t.1 31 8 = 2 → t.1 31 7 = lx_run lx_dg (s.1 32) (s.1 31 1) (s.1 31 7) → t.1 31 10 = lx_num (s.1 32) (s.1 31 1) (s.1 31 7) 0 → Q t) (h7 : 0 ≤ s.1 31 7) (hb : ∀ i, 0 ≤ i → i < s.1 31 1 → 0 ≤ s.1 32 i ∧ s.1 32 i ≤ 255) : fw_33 Q s := by
  unfold fw_33
  refine ⟨fun t => rd_F s t ∧ t.1 31 9 = s.1 31 9 ∧ t.1 31 8 = 2 ∧ 0 ≤ t.1 31 7 ∧ (0 ≤ t.1 31 10 ∧ t.1 31 10 ≤ 10000) ∧ lx_run lx_dg (s.1 32) (s.1 31 1) (t.1 31 7) = lx_run lx_dg (s.1 32) (s.1 31 1) (s.1 31 7) ∧ lx_num (s.1 32) (s.1 31 1) (t.1 31 7) (t.1 31 10) = lx_num (s.1 32) (s.1 31 1) (s.1 31 7) 0, ?_, ?_⟩
  · intro t ⟨hF, h9, h8, p0, v0, hr, hn⟩
    have e1 : t.1 31 1 = s.1 31 1 := hF.2.1 1 (by decide) (by decide) (by decide) (by decide)
    have e32 : t.1 32 = s.1 32 := hF.1 32 (by decide)
    unfold fw_33_p10
    intro _ _
    rw [e1]
    have fin : ¬ (t.1 31 7 < s.1 31 1 ∧ lx_dg (s.1 32 (t.1 31 7)) = true) → Q t := by
      intro hc
      refine h t hF h9 h8 ?_ ?_
      · rw [← hr, lx_run_e hc]
      · rw [← hn, lx_num_e hc]
    refine ⟨fun c => fin (fun q => by omega), fun c _ => fl_32 ?_⟩
    rw [e32]
    refine ⟨fun d => fin (fun q => by rw [d] at q; cases q.2), fun d _ => ?_⟩
    have hb2 := hb (t.1 31 7) p0 (by omega)
    have hw : lf_w ((lf_w ((lf_w ((t.1 31 10) * 10)) + (s.1 32 (t.1 31 7)))) - 48) = t.1 31 10 * 10 + s.1 32 (t.1 31 7) - 48 := by
      rw [tr_w (a := t.1 31 10 * 10) (by omega), tr_w (a := t.1 31 10 * 10 + s.1 32 (t.1 31 7)) (by omega), tr_w (by omega)]
    rw [hw]
    have hd : 48 ≤ s.1 32 (t.1 31 7) := by
      unfold lx_dg at d
      rw [Bool.and_eq_true, decide_eq_true_eq] at d
      exact d.1
    have g7 : (lf_up (lf_up t.1 31 10 (min 10000 (t.1 31 10 * 10 + s.1 32 (t.1 31 7) - 48))) 31 7 ((t.1 31 7) + 1)) 31 7 = t.1 31 7 + 1 := lf_up_s
    have g10 : (lf_up (lf_up t.1 31 10 (min 10000 (t.1 31 10 * 10 + s.1 32 (t.1 31 7) - 48))) 31 7 ((t.1 31 7) + 1)) 31 10 = min 10000 (t.1 31 10 * 10 + s.1 32 (t.1 31 7) - 48) := (lf_up_i (by decide)).trans lf_up_s
    refine ⟨rd_Fu (rd_Fu hF (by omega)) (by omega), ?_, ?_, ?_, ?_, ?_, ?_⟩
    · exact ((zu_i (by decide)).trans (lf_up_i (by decide))).trans h9
    · exact ((zu_i (by decide)).trans (lf_up_i (by decide))).trans h8
    · show 0 ≤ (lf_up (lf_up t.1 31 10 (min 10000 (t.1 31 10 * 10 + s.1 32 (t.1 31 7) - 48))) 31 7 ((t.1 31 7) + 1)) 31 7
      rw [g7]; omega
    · show 0 ≤ (lf_up (lf_up t.1 31 10 (min 10000 (t.1 31 10 * 10 + s.1 32 (t.1 31 7) - 48))) 31 7 ((t.1 31 7) + 1)) 31 10 ∧ (lf_up (lf_up t.1 31 10 (min 10000 (t.1 31 10 * 10 + s.1 32 (t.1 31 7) - 48))) 31 7 ((t.1 31 7) + 1)) 31 10 ≤ 10000
      rw [g10]; omega
    · show lx_run lx_dg (s.1 32) (s.1 31 1) ((lf_up (lf_up t.1 31 10 (min 10000 (t.1 31 10 * 10 + s.1 32 (t.1 31 7) - 48))) 31 7 ((t.1 31 7) + 1)) 31 7) = _
      rw [g7, ← hr, lx_run_s (by omega) d]
    · show lx_num (s.1 32) (s.1 31 1) ((lf_up (lf_up t.1 31 10 (min 10000 (t.1 31 10 * 10 + s.1 32 (t.1 31 7) - 48))) 31 7 ((t.1 31 7) + 1)) 31 7) ((lf_up (lf_up t.1 31 10 (min 10000 (t.1 31 10 * 10 + s.1 32 (t.1 31 7) - 48))) 31 7 ((t.1 31 7) + 1)) 31 10) = _
      rw [g7, g10, ← hn, lx_num_s (by omega) d]
  · have g7 : (lf_up (lf_up s.1 31 8 2) 31 10 0) 31 7 = s.1 31 7 := (lf_up_i (by decide)).trans (lf_up_i (by decide))
    have g10 : (lf_up (lf_up s.1 31 8 2) 31 10 0) 31 10 = 0 := lf_up_s
    refine ⟨rd_Fu (rd_Fu rd_Fr (by omega)) (by omega), (zu_i (by decide)).trans (lf_up_i (by decide)), (zu_i (by decide)).trans lf_up_s, ?_, ?_, ?_, ?_⟩
    · show 0 ≤ (lf_up (lf_up s.1 31 8 2) 31 10 0) 31 7; rw [g7]; exact h7
    · show 0 ≤ (lf_up (lf_up s.1 31 8 2) 31 10 0) 31 10 ∧ (lf_up (lf_up s.1 31 8 2) 31 10 0) 31 10 ≤ 10000
      rw [g10]; omega
    · show lx_run lx_dg (s.1 32) (s.1 31 1) ((lf_up (lf_up s.1 31 8 2) 31 10 0) 31 7) = _; rw [g7]
    · show lx_num (s.1 32) (s.1 31 1) ((lf_up (lf_up s.1 31 8 2) 31 10 0) 31 7) ((lf_up (lf_up s.1 31 8 2) 31 10 0) 31 10) = _; rw [g7, g10]
/-- which word stands from the token's begin to the place at hand -/
theorem fl_36 {Q : Int → lf_Z → Prop} (h : Q (lx_W (s.1 32) (s.1 31 9) (s.1 31 7)) s) : fw_36 Q s := by
  unfold fw_36
  refine ⟨fun x1 x2 x3 x4 t => t = s ∧ 0 ≤ x4 ∧ (x3 = 0 ∨ x3 = 1) ∧ lx_wl (s.1 32) (s.1 31 9) (s.1 31 7) ((ps_byt.drop x4.toNat).map Int32.toInt) x1 x2 (decide (x3 ≠ 0)) = lx_W (s.1 32) (s.1 31 9) (s.1 31 7), ?_, ?_⟩
  · intro x1 x2 x3 x4 t ⟨ht, h4, h3, hw⟩
    subst ht
    unfold fw_36_p13
    intro _
    refine ⟨fun c => ?_, fun c _ => ?_⟩
    · rw [lx_dropE (show 180 ≤ x4.toNat by omega)] at hw
      have e : lx_W (t.1 32) (t.1 31 9) (t.1 31 7) = 1 := hw.symm
      rw [e] at h
      exact h
    · rw [lx_drop x4.toNat (by omega)] at hw
      generalize hc : (ps_byt.getD x4.toNat 0).toInt = ch at hw ⊢
      have e4 : (x4 + 1).toNat = x4.toNat + 1 := by omega
      have hw2 : (if ch = 32 then (if decide (x3 ≠ 0) = true ∧ x2 = t.1 31 7 then x1 else lx_wl (t.1 32) (t.1 31 9) (t.1 31 7) ((ps_byt.drop (x4.toNat + 1)).map Int32.toInt) (x1 + 1) (t.1 31 9) true) else lx_wl (t.1 32) (t.1 31 9) (t.1 31 7) ((ps_byt.drop (x4.toNat + 1)).map Int32.toInt) x1 (x2 + 1) (decide (x3 ≠ 0) && decide (x2 < t.1 31 7) && decide (t.1 32 x2 = ch))) = lx_W (t.1 32) (t.1 31 9) (t.1 31 7) := hw
      refine ⟨fun c32 => ?_, fun c32 => ?_⟩
      · rw [if_pos c32] at hw2
        have nx : ¬ (decide (x3 ≠ 0) = true ∧ x2 = t.1 31 7) → fw_36_p88 (fun x1 x2 x3 x4 t' => t' = t ∧ 0 ≤ x4 ∧ (x3 = 0 ∨ x3 = 1) ∧ lx_wl (t.1 32) (t.1 31 9) (t.1 31 7) ((ps_byt.drop x4.toNat).map Int32.toInt) x1 x2 (decide (x3 ≠ 0)) = lx_W (t.1 32) (t.1 31 9) (t.1 31 7)) Q x1 x4 t := by
          intro hn
          rw [if_neg hn] at hw2
          refine ⟨rfl, by omega, Or.inr rfl, ?_⟩
          rw [e4]
          exact hw2
        intro _
        refine ⟨fun c3 => nx (fun q => by rw [c3] at q; cases q.1), fun c3 _ _ => ⟨fun c2 => nx (fun q => c2 q.2), fun c2 => ?_⟩⟩
        rw [if_pos ⟨decide_eq_true c3, Classical.not_not.mp c2⟩] at hw2
        rw [← hw2] at h
        exact h
      · rw [if_neg c32] at hw2
        have nx : ∀ y : Int, (y = 0 ∨ y = 1) → (decide (x3 ≠ 0) && decide (x2 < t.1 31 7) && decide (t.1 32 x2 = ch)) = decide (y ≠ 0) → fw_36_p67 (fun x1 x2 x3 x4 t' => t' = t ∧ 0 ≤ x4 ∧ (x3 = 0 ∨ x3 = 1) ∧ lx_wl (t.1 32) (t.1 31 9) (t.1 31 7) ((ps_byt.drop x4.toNat).map Int32.toInt) x1 x2 (decide (x3 ≠ 0)) = lx_W (t.1 32) (t.1 31 9) (t.1 31 7)) Q x1 x2 x4 y t := by
          intro y hy he
          rw [he] at hw2
          refine ⟨rfl, by omega, hy, ?_⟩
          rw [e4]
          exact hw2
        intro _
        refine ⟨fun c3 => nx 0 (Or.inl rfl) ?_, fun c3 _ _ => ⟨fun c2 => nx 0 (Or.inl rfl) ?_, fun c2 _ _ => ⟨fun c1 => nx 0 (Or.inl rfl) ?_, fun c1 => nx 1 (Or.inr rfl) ?_⟩⟩⟩
        · rw [decide_eq_false (show ¬ x3 ≠ 0 from fun q => q c3)]; rfl
        · rw [decide_eq_false (show ¬ x2 < t.1 31 7 by omega), Bool.and_false, Bool.false_and]; rfl
        · rw [decide_eq_false (show ¬ t.1 32 x2 = ch from c1), Bool.and_false]; rfl
        · rw [decide_eq_true c3, decide_eq_true (show x2 < t.1 31 7 by omega), decide_eq_true (show t.1 32 x2 = ch from Classical.not_not.mp c1)]; rfl
  · exact ⟨rfl, Int.le_refl _, Or.inr rfl, lx_wlB⟩
/-- a word or a letter is read to its end -/
theorem fl_35 {Q : lf_Z → Prop} (h9 : s.1 31 9 = s.1 31 7) (h7 : 0 ≤ s.1 31 7) (hn : s.1 31 7 < s.1 31 1) (hc : lx_lt (s.1 32 (s.1 31 7)) = true) (h : ∀ t : lf_Z, rd_F s t → t.1 31 9 = s.1 31 9 → t.1 31 7 = lx_run lx_lt (s.1 32) (s.1 31 1) (s.1 31 7) → ((t.1 31 7 = s.1 31 7 + 1 ∧ 97 ≤ s.1 32 (s.1 31 7) ∧ t.1 31 8 = 3 ∧ t.1 31 10 = s.1 32 (s.1 31 7) - 97) ∨ (¬ (t.1 31 7 = s.1 31 7 + 1 ∧ 97 ≤ s.1 32 (s.1 31 7)) ∧ t.1 31 8 = lx_W (s.1 32) (s.1 31 7) (lx_run lx_lt (s.1 32) (s.1 31 1) (s.1 31 7)))) → Q t) : fw_35 Q s := by
  unfold fw_35
  refine ⟨fun t => rd_F s t ∧ t.1 31 9 = s.1 31 9 ∧ lx_run lx_lt (s.1 32) (s.1 31 1) (t.1 31 7) = lx_run lx_lt (s.1 32) (s.1 31 1) (s.1 31 7), ?_, ⟨rd_Fr, rfl, rfl⟩⟩
  intro t ⟨hF, g9, hr⟩
  have e1 : t.1 31 1 = s.1 31 1 := hF.2.1 1 (by decide) (by decide) (by decide) (by decide)
  have e32 : t.1 32 = s.1 32 := hF.1 32 (by decide)
  unfold fw_35_p0
  intro _ _
  rw [e1]
  have fin : ¬ (t.1 31 7 < s.1 31 1 ∧ lx_lt (s.1 32 (t.1 31 7)) = true) → fw_35_p39 Q t := by
    intro hc
    have g7 : t.1 31 7 = lx_run lx_lt (s.1 32) (s.1 31 1) (s.1 31 7) := by rw [← hr, lx_run_e hc]
    have w90 : ¬ (t.1 31 7 = s.1 31 7 + 1 ∧ 97 ≤ s.1 32 (s.1 31 7)) → fw_35_p90 Q t := by
      intro hw
      unfold fw_35_p90
      refine fl_36 ?_
      rw [e32, g9, h9, g7]
      have a7 : (lf_up t.1 31 8 (lx_W (s.1 32) (s.1 31 7) (lx_run lx_lt (s.1 32) (s.1 31 1) (s.1 31 7)))) 31 7 = t.1 31 7 := lf_up_i (by decide)
      refine h _ (rd_Fu hF (by omega)) ((zu_i (by decide)).trans g9) (a7.trans g7) (Or.inr ⟨?_, zu_s⟩)
      show ¬ ((lf_up t.1 31 8 (lx_W (s.1 32) (s.1 31 7) (lx_run lx_lt (s.1 32) (s.1 31 1) (s.1 31 7)))) 31 7 = s.1 31 7 + 1 ∧ _)
      rw [a7]
      exact hw
    unfold fw_35_p39
    intro _ _
    rw [g9, h9]
    refine ⟨fun c => w90 (fun q => c q.1), fun c _ _ => ?_⟩
    rw [e32]
    refine ⟨fun d => w90 (fun q => by omega), fun d => ?_⟩
    have a7 : (lf_up (lf_up t.1 31 8 3) 31 10 ((s.1 32 (s.1 31 7)) - 97)) 31 7 = t.1 31 7 := (lf_up_i (by decide)).trans (lf_up_i (by decide))
    refine h _ (rd_Fu (rd_Fu hF (by omega)) (by omega)) (((zu_i (by decide)).trans (lf_up_i (by decide))).trans g9) (a7.trans g7) (Or.inl ⟨a7.trans (Classical.not_not.mp c), by omega, (zu_i (by decide)).trans lf_up_s, zu_s⟩)
  refine ⟨fun c => fin (fun q => by omega), fun c _ => fl_34 ?_⟩
  rw [e32]
  refine ⟨fun d => fin (fun q => by rw [d] at q; cases q.2), fun d => ?_⟩
  have a7 : (lf_up t.1 31 7 ((t.1 31 7) + 1)) 31 7 = t.1 31 7 + 1 := lf_up_s
  refine ⟨rd_Fu hF (by omega), (zu_i (by decide)).trans g9, ?_⟩
  show lx_run lx_lt (s.1 32) (s.1 31 1) ((lf_up t.1 31 7 ((t.1 31 7) + 1)) 31 7) = _
  rw [a7, ← hr, lx_run_s (by omega) d]
/-- a sign -/
theorem fl_37 {Q : lf_Z → Prop} (h : ∀ t : lf_Z, rd_F s t → t.1 31 9 = s.1 31 9 → t.1 31 7 = (if lx_two (s.1 32) (s.1 31 1) (s.1 31 7) = true then s.1 31 7 + 2 else s.1 31 7 + 1) → t.1 31 8 = lx_sg (s.1 32 (s.1 31 7)) (if lx_two (s.1 32) (s.1 31 1) (s.1 31 7) = true then 1 else 0) → Q t) : fw_37 (s.1 32 (s.1 31 7)) Q s := by
  have go : ∀ (y : Int) (p : Int) (t : lf_Z), rd_F s t → t.1 31 9 = s.1 31 9 → t.1 31 7 = p → y = (if lx_two (s.1 32) (s.1 31 1) (s.1 31 7) = true then 1 else 0) → p = (if lx_two (s.1 32) (s.1 31 1) (s.1 31 7) = true then s.1 31 7 + 2 else s.1 31 7 + 1) → (y = 1 → s.1 32 (s.1 31 7) = 60 ∨ s.1 32 (s.1 31 7) = 62) → fw_37_p67 Q (s.1 32 (s.1 31 7)) y t := by
    intro y p t hF g9 g7 hy hp h1
    have fin : ∀ v : Int, v = lx_sg (s.1 32 (s.1 31 7)) y → Q (lf_up t.1 31 8 v, t.2.1, t.2.2) := by
      intro v hv
      refine h _ (rd_Fu hF (by omega)) ((zu_i (by decide)).trans g9) (((zu_i (by decide)).trans g7).trans hp) ?_
      show (lf_up t.1 31 8 v) 31 8 = _
      rw [lf_up_s, hv, hy]
    have bad : (s.1 32 (s.1 31 7) ≠ 60 ∧ s.1 32 (s.1 31 7) ≠ 62 ∧ s.1 32 (s.1 31 7) ≠ 61 ∧ s.1 32 (s.1 31 7) ≠ 35 ∧ s.1 32 (s.1 31 7) ≠ 43 ∧ s.1 32 (s.1 31 7) ≠ 45 ∧ s.1 32 (s.1 31 7) ≠ 42 ∧ s.1 32 (s.1 31 7) ≠ 47 ∧ s.1 32 (s.1 31 7) ≠ 40 ∧ s.1 32 (s.1 31 7) ≠ 41 ∧ s.1 32 (s.1 31 7) ≠ 59) → fw_37_p311 Q t := by
      intro hb
      unfold fw_37_p311
      refine fin 1 ?_
      unfold lx_sg
      rw [if_neg hb.1, if_neg hb.2.1, if_neg hb.2.2.1, if_neg hb.2.2.2.1, if_neg hb.2.2.2.2.1, if_neg hb.2.2.2.2.2.1, if_neg hb.2.2.2.2.2.2.1, if_neg hb.2.2.2.2.2.2.2.1, if_neg hb.2.2.2.2.2.2.2.2.1, if_neg hb.2.2.2.2.2.2.2.2.2.1, if_neg hb.2.2.2.2.2.2.2.2.2.2]
    unfold fw_37_p67
    intro _
    generalize hc : s.1 32 (s.1 31 7) = c at fin bad h1 ⊢
    refine ⟨fun e => bad (by omega), fun e => fin 9 (by subst e; rfl), fun e => bad (by omega), fun e => bad (by omega), fun e => bad (by omega), fun e => bad (by omega), fun e => fin 14 (by subst e; rfl), fun e => fin 15 (by subst e; rfl), fun e => fin 12 (by subst e; rfl), fun e => fin 10 (by subst e; rfl), fun e => bad (by omega), fun e => fin 11 (by subst e; rfl), fun e => bad (by omega), fun e => fin 13 (by subst e; rfl), fun e => bad (by omega), fun e => bad (by omega), fun e => bad (by omega), fun e => bad (by omega), fun e => bad (by omega), fun e => bad (by omega), fun e => bad (by omega), fun e => bad (by omega), fun e => bad (by omega), fun e => bad (by omega), fun e => bad (by omega), fun e => fin 16 (by subst e; rfl), fun e _ => ⟨fun z => fin 4 (by subst e z; rfl), fun z => fin 5 ?_⟩, fun e => fin 8 (by subst e; rfl), fun e _ => ⟨fun z => fin 6 (by subst e z; rfl), fun z => fin 7 ?_⟩⟩
    · have : y = 1 := by rw [hy] at z ⊢; split at z <;> simp_all
      subst e this; rfl
    · have : y = 1 := by rw [hy] at z ⊢; split at z <;> simp_all
      subst e this; rfl
  have a7 : (lf_up s.1 31 7 ((s.1 31 7) + 1)) 31 7 = s.1 31 7 + 1 := lf_up_s
  have one : lx_two (s.1 32) (s.1 31 1) (s.1 31 7) = false → fw_37_p51 Q (s.1 32 (s.1 31 7)) (lf_up s.1 31 7 ((s.1 31 7) + 1), s.2.1, s.2.2) := by
    intro hl
    unfold fw_37_p51 fw_37_p52
    intro _
    refine ⟨fun _ => ?_, fun c => absurd rfl c⟩
    refine go 0 (s.1 31 7 + 1) _ (rd_Fu rd_Fr (by omega)) (zu_i (by decide)) a7 ?_ ?_ (fun e => by cases e)
    · rw [hl]; rfl
    · rw [hl]; rfl
  have two : lx_two (s.1 32) (s.1 31 1) (s.1 31 7) = true → (s.1 32 (s.1 31 7) = 60 ∨ s.1 32 (s.1 31 7) = 62) → fw_37_p47 Q (s.1 32 (s.1 31 7)) (lf_up s.1 31 7 ((s.1 31 7) + 1), s.2.1, s.2.2) := by
    intro hl hc
    unfold fw_37_p47 fw_37_p52
    intro _
    refine ⟨(fun c => by cases c), fun _ => ?_⟩
    have b7 : (lf_up (lf_up s.1 31 7 ((s.1 31 7) + 1)) 31 7 (((lf_up s.1 31 7 ((s.1 31 7) + 1)) 31 7) + 1)) 31 7 = s.1 31 7 + 2 := by rw [lf_up_s, a7]; omega
    have b9 : (lf_up (lf_up s.1 31 7 ((s.1 31 7) + 1)) 31 7 (((lf_up s.1 31 7 ((s.1 31 7) + 1)) 31 7) + 1)) 31 9 = s.1 31 9 := (lf_up_i (by decide)).trans (lf_up_i (by decide))
    refine go 1 (s.1 31 7 + 2) _ (rd_Fu (t := (lf_up s.1 31 7 ((s.1 31 7) + 1), s.2.1, s.2.2)) (rd_Fu rd_Fr (by omega)) (by omega)) b9 b7 ?_ ?_ (fun _ => hc)
    · rw [hl]; rfl
    · rw [hl]; rfl
  have lf : ∀ {a b c : Bool}, (a = false ∨ b = false ∨ c = false) → (a && b && c) = false := by
    intro a b c h
    rcases h with rfl | rfl | rfl
    · rfl
    · rw [Bool.and_false]; rfl
    · rw [Bool.and_false]
  unfold fw_37
  intro _ _
  refine ⟨fun c => one (lf (Or.inl (decide_eq_false (by omega)))), fun c _ _ => ⟨fun d => one (lf (Or.inr (Or.inl (decide_eq_false d)))), fun d _ => ⟨fun e => two ?_ (Or.inl e), fun e => ⟨fun g => one (lf (Or.inr (Or.inr ?_))), fun g => two ?_ (Or.inr (Classical.not_not.mp g))⟩⟩⟩⟩
  · unfold lx_two
    rw [decide_eq_true (show s.1 31 7 + 1 < s.1 31 1 by omega), decide_eq_true (Classical.not_not.mp d), decide_eq_true e]; rfl
  · rw [decide_eq_false e, decide_eq_false g]; rfl
  · unfold lx_two
    rw [decide_eq_true (show s.1 31 7 + 1 < s.1 31 1 by omega), decide_eq_true (Classical.not_not.mp d), decide_eq_false e, decide_eq_true (Classical.not_not.mp g)]; rfl
/-- on to the next token -/
def lx_sk (f : Int → Int) (n p : Int) : Int := lx_run lx_bl f n p
theorem lx_Tz {b : Int} (h : n ≤ b) : lx_T f n b = 0 ∧ lx_E f n b = b := by
  unfold lx_T lx_E
  rw [if_pos h, if_pos h]
  exact ⟨rfl, rfl⟩
theorem lx_Td {b : Int} (h : b < n) (hd : lx_dg (f b) = true) : lx_T f n b = 2 ∧ lx_E f n b = lx_run lx_dg f n b ∧ lx_V f n b = lx_num f n b 0 := by
  unfold lx_T lx_E lx_V
  rw [if_neg (show ¬ n ≤ b by omega), if_neg (show ¬ n ≤ b by omega), if_pos hd, if_pos hd, if_pos hd]
  exact ⟨rfl, rfl, rfl⟩
theorem lx_Tl {b : Int} (h : b < n) (hd : lx_dg (f b) = false) (hl : lx_lt (f b) = true) : lx_T f n b = (if lx_run lx_lt f n b = b + 1 ∧ 97 ≤ f b then 3 else lx_W f b (lx_run lx_lt f n b)) ∧ lx_E f n b = lx_run lx_lt f n b ∧ lx_V f n b = f b - 97 := by
  unfold lx_T lx_E lx_V
  have hd : ¬ lx_dg (f b) = true := by rw [hd]; decide
  rw [if_neg (show ¬ n ≤ b by omega), if_neg (show ¬ n ≤ b by omega), if_neg hd, if_neg hd, if_neg hd, if_pos hl, if_pos hl]
  exact ⟨rfl, rfl, rfl⟩
theorem lx_Ts {b : Int} (h : b < n) (hd : lx_dg (f b) = false) (hl : lx_lt (f b) = false) : lx_T f n b = lx_sg (f b) (if lx_two f n b = true then 1 else 0) ∧ lx_E f n b = (if lx_two f n b = true then b + 2 else b + 1) := by
  unfold lx_T lx_E
  have hd : ¬ lx_dg (f b) = true := by rw [hd]; decide
  have hl : ¬ lx_lt (f b) = true := by rw [hl]; decide
  rw [if_neg (show ¬ n ≤ b by omega), if_neg (show ¬ n ≤ b by omega), if_neg hd, if_neg hd, if_neg hl, if_neg hl]
  exact ⟨rfl, rfl⟩
theorem lx_WB {b e : Int} : lx_W f b e = 1 ∨ 20 ≤ lx_W f b e := by
  have key : ∀ (ws : List (List Int)) (k : Int), lx_wf f b e ws k = 1 ∨ k ≤ lx_wf f b e ws k := by
    intro ws
    induction ws with
    | nil => intro k; exact Or.inl rfl
    | cons w ws ih =>
      intro k
      show (if lx_m f b e w = true then k else lx_wf f b e ws (k + 1)) = 1 ∨ k ≤ (if lx_m f b e w = true then k else lx_wf f b e ws (k + 1))
      by_cases hm : lx_m f b e w = true
      · rw [if_pos hm]; exact Or.inr (Int.le_refl _)
      · rw [if_neg hm]
        rcases ih (k + 1) with q | q
        · exact Or.inl q
        · exact Or.inr (by omega)
  exact key lx_WL 20
theorem lx_sgB {c d : Int} : lx_sg c d ≠ 2 ∧ lx_sg c d ≠ 3 ∧ lx_sg c d ≠ 0 := by
  unfold lx_sg
  (repeat' split) <;> omega
theorem fl_31 {Q : lf_Z → Prop} (e0 : s.1 31 2 = 0) (h7 : 0 ≤ s.1 31 7) (hb : ∀ i, 0 ≤ i → i < s.1 31 1 → 0 ≤ s.1 32 i ∧ s.1 32 i ≤ 255) (h : ∀ t : lf_Z, rd_F s t → rd_at t (lx_sk (s.1 32) (s.1 31 1) (s.1 31 7)) → Q t) : fw_31 Q s := by
  have p60 : ∀ t : lf_Z, rd_F s t → 0 ≤ t.1 31 7 → t.1 31 7 = lx_sk (s.1 32) (s.1 31 1) (s.1 31 7) → fw_31_p60 Q t := by
    intro t hF h0 hp
    have e1 : t.1 31 1 = s.1 31 1 := hF.2.1 1 (by decide) (by decide) (by decide) (by decide)
    have e32 : t.1 32 = s.1 32 := hF.1 32 (by decide)
    have U : ∃ u : lf_Z, u = (lf_up t.1 31 9 (t.1 31 7), t.2.1, t.2.2) := ⟨_, rfl⟩
    obtain ⟨u, hu⟩ := U
    have uF : rd_F s u := by rw [hu]; exact rd_Fu hF (by omega)
    have u9 : u.1 31 9 = t.1 31 7 := by rw [hu]; exact zu_s
    have u7 : u.1 31 7 = t.1 31 7 := by rw [hu]; exact zu_i (by decide)
    have u1 : u.1 31 1 = s.1 31 1 := uF.2.1 1 (by decide) (by decide) (by decide) (by decide)
    have u32 : u.1 32 = s.1 32 := uF.1 32 (by decide)
    have fin : ∀ v : lf_Z, rd_F u v → v.1 31 9 = u.1 31 9 → v.1 31 8 = lx_T (s.1 32) (s.1 31 1) (t.1 31 7) → v.1 31 7 = lx_E (s.1 32) (s.1 31 1) (t.1 31 7) → ((v.1 31 8 = 2 ∨ v.1 31 8 = 3) → v.1 31 10 = lx_V (s.1 32) (s.1 31 1) (t.1 31 7)) → Q v := by
      intro v vF v9 v8 v7 v10
      have vs := rd_Ft uF vF
      have a1 : v.1 31 1 = s.1 31 1 := vs.2.1 1 (by decide) (by decide) (by decide) (by decide)
      have a32 : v.1 32 = s.1 32 := vs.1 32 (by decide)
      refine h v vs ⟨?_, ?_, ?_, ?_⟩
      · rw [v9, u9, hp]
      · rw [a1, a32, v8, hp]
      · rw [a1, a32, v7, hp]
      · rw [a1, a32, ← hp]; exact v10
    unfold fw_31_p60
    intro _ _
    rw [e1]
    refine ⟨fun c _ => ?_, fun c => ?_⟩
    · rw [e32, ← hu]
      refine fl_32 ⟨fun d _ => ?_, fun d => ?_⟩
      · rw [u32, u7]
        refine fl_34 ⟨fun l _ => ?_, fun l => ?_⟩
        · have hT := lx_Ts c d l
          refine fl_37 (fun v vF v9 v7 v8 => fin v vF v9 ?_ ?_ (fun q => ?_))
          · rw [v8, hT.1, u32, u1, u7]
          · rw [v7, hT.2, u32, u1, u7]
          · have := lx_sgB (c := u.1 32 (u.1 31 7)) (d := if lx_two (u.1 32) (u.1 31 1) (u.1 31 7) = true then 1 else 0)
            rw [← v8] at this
            rcases q with q | q
            · exact absurd q this.1
            · exact absurd q this.2.1
        · have hT := lx_Tl c d l
          refine fl_35 (by rw [u9, u7]) (by rw [u7]; exact h0) (by rw [u7, u1]; exact c) (by rw [u32, u7]; exact l) (fun v vF v9 v7 v8 => fin v vF v9 ?_ ?_ ?_)
          · rw [hT.1]
            rw [u32, u1, u7] at v7
            rcases v8 with ⟨a, b, w8, w10⟩ | ⟨a, w8⟩
            · rw [u32, u7] at b; rw [u7] at a
              rw [if_pos ⟨by omega, b⟩]; exact w8
            · rw [u7, u32] at a
              rw [if_neg (fun q => a ⟨by omega, q.2⟩), w8, u32, u1, u7]
          · rw [v7, hT.2.1, u32, u1, u7]
          · intro q
            rw [hT.2.2]
            rcases v8 with ⟨a, b, w8, w10⟩ | ⟨a, w8⟩
            · rw [w10, u32, u7]
            · rcases lx_WB (f := u.1 32) (b := u.1 31 7) (e := lx_run lx_lt (u.1 32) (u.1 31 1) (u.1 31 7)) with z | z
              · omega
              · omega
      · have hT := lx_Td c d
        refine fl_33 (fun v vF v9 v8 v7 v10 => fin v vF v9 ?_ ?_ (fun _ => ?_)) (by rw [u7]; exact h0) (by rw [u1, u32]; exact hb)
        · rw [v8, hT.1]
        · rw [v7, hT.2.1, u32, u1, u7]
        · rw [v10, hT.2.2, u32, u1, u7]
    · have hT := lx_Tz (f := s.1 32) (show s.1 31 1 ≤ t.1 31 7 by omega)
      have w8 : (lf_up (lf_up t.1 31 9 (t.1 31 7)) 31 8 0) 31 8 = 0 := lf_up_s
      have vF : rd_F s (lf_up (lf_up t.1 31 9 (t.1 31 7)) 31 8 0, t.2.1, t.2.2) := rd_Fu (rd_Fu hF (by omega)) (by omega)
      have a1 : (lf_up (lf_up t.1 31 9 (t.1 31 7)) 31 8 0) 31 1 = s.1 31 1 := vF.2.1 1 (by decide) (by decide) (by decide) (by decide)
      have a32 : (lf_up (lf_up t.1 31 9 (t.1 31 7)) 31 8 0) 32 = s.1 32 := vF.1 32 (by decide)
      refine h _ vF ⟨?_, ?_, ?_, ?_⟩
      · exact ((zu_i (by decide)).trans lf_up_s).trans hp
      · show (lf_up (lf_up t.1 31 9 (t.1 31 7)) 31 8 0) 31 8 = lx_T ((lf_up (lf_up t.1 31 9 (t.1 31 7)) 31 8 0) 32) ((lf_up (lf_up t.1 31 9 (t.1 31 7)) 31 8 0) 31 1) _
        rw [w8, a1, a32, ← hp, hT.1]
      · show (lf_up (lf_up t.1 31 9 (t.1 31 7)) 31 8 0) 31 7 = lx_E ((lf_up (lf_up t.1 31 9 (t.1 31 7)) 31 8 0) 32) ((lf_up (lf_up t.1 31 9 (t.1 31 7)) 31 8 0) 31 1) _
        rw [a1, a32, ← hp, hT.2]
        exact (lf_up_i (by decide)).trans (lf_up_i (by decide))
      · intro q
        have q : (lf_up (lf_up t.1 31 9 (t.1 31 7)) 31 8 0) 31 8 = 2 ∨ (lf_up (lf_up t.1 31 9 (t.1 31 7)) 31 8 0) 31 8 = 3 := q
        rw [w8] at q
        omega
  unfold fw_31
  intro _
  refine ⟨fun _ => ?_, fun c => absurd e0 c⟩
  refine ⟨fun t => rd_F s t ∧ 0 ≤ t.1 31 7 ∧ lx_sk (s.1 32) (s.1 31 1) (t.1 31 7) = lx_sk (s.1 32) (s.1 31 1) (s.1 31 7), ?_, ⟨rd_Fr, h7, rfl⟩⟩
  intro t ⟨hF, h0, hr⟩
  have e1 : t.1 31 1 = s.1 31 1 := hF.2.1 1 (by decide) (by decide) (by decide) (by decide)
  have e32 : t.1 32 = s.1 32 := hF.1 32 (by decide)
  have stop : ¬ (t.1 31 7 < s.1 31 1 ∧ lx_bl (s.1 32 (t.1 31 7)) = true) → fw_31_p60 Q t := by
    intro hc
    refine p60 t hF h0 ?_
    rw [← hr]
    exact (lx_run_e hc).symm
  have more : t.1 31 7 < s.1 31 1 → lx_bl (s.1 32 (t.1 31 7)) = true → fw_31_p47 (fun t => rd_F s t ∧ 0 ≤ t.1 31 7 ∧ lx_sk (s.1 32) (s.1 31 1) (t.1 31 7) = lx_sk (s.1 32) (s.1 31 1) (s.1 31 7)) Q t := by
    intro hc hq
    have a7 : (lf_up t.1 31 7 ((t.1 31 7) + 1)) 31 7 = t.1 31 7 + 1 := lf_up_s
    refine ⟨rd_Fu hF (by omega), ?_, ?_⟩
    · show 0 ≤ (lf_up t.1 31 7 ((t.1 31 7) + 1)) 31 7; rw [a7]; omega
    · show lx_sk (s.1 32) (s.1 31 1) ((lf_up t.1 31 7 ((t.1 31 7) + 1)) 31 7) = _
      rw [a7, ← hr]
      exact (lx_run_s hc hq).symm
  unfold fw_31_p8
  intro _ _
  rw [e1]
  refine ⟨fun c => stop (fun q => by omega), fun c _ _ => ?_⟩
  rw [e32]
  refine ⟨fun d => more (by omega) (by unfold lx_bl; rw [decide_eq_true d]; rfl), fun d => ⟨fun g => stop (fun q => ?_), fun g => more (by omega) ?_⟩⟩
  · have q := q.2
    unfold lx_bl at q
    rw [decide_eq_false d, decide_eq_false g] at q
    cases q
  · unfold lx_bl
    rw [decide_eq_true (Classical.not_not.mp g), Bool.or_true]
/-- behind a fault nothing is read -/
theorem fl_31f {Q : lf_Z → Prop} (e0 : s.1 31 2 ≠ 0) (h : Q s) : fw_31 Q s := by
  unfold fw_31
  intro _
  exact ⟨fun c => absurd c e0, fun _ => h⟩
end LX
