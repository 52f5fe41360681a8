/-! what a minute keeps of a stand's row -/
section GP
variable {J : Nat → Int → Int} {f g : Int → Int} {X : mn_X} {a b p x z : Int}
theorem bt_t0 {k : Int} : bt_t 0 k = false := bt_0
/-- a bunch stands on the land -/
def gp_b (J : Nat → Int → Int) (f : Int → Int) (b : Int) : Prop := 0 < f (3 * b) → (0 ≤ f (3 * b + 1) ∧ f (3 * b + 1) < J 1 0) ∧ -1 ≤ f (3 * b + 2) ∧ f (3 * b + 2) < J 1 0
/-- what is true of every stand -/
def gp_I (J : Nat → Int → Int) (f : Int → Int) : Prop :=
  gc_P J f ∧ (∀ b : Int, 0 ≤ b → b < 4 → gp_b J f b) ∧ (0 ≤ f 0 ∧ 0 ≤ f 3 ∧ 0 ≤ f 6 ∧ 0 ≤ f 9 ∧ f 0 + f 3 + f 6 + f 9 ≤ 24) ∧ 0 ≤ f 38 ∧ f 38 < 30203
theorem gp_sz (h : gp_I J f) (b0 : 0 ≤ b) (b1 : b < 4) : 0 ≤ f (3 * b) ∧ f (3 * b) ≤ 24 := by
  obtain ⟨_, _, z, _⟩ := h
  rcases (show b = 0 ∨ b = 1 ∨ b = 2 ∨ b = 3 by omega) with e | e | e | e
  · subst e; show 0 ≤ f 0 ∧ f 0 ≤ 24; omega
  · subst e; show 0 ≤ f 3 ∧ f 3 ≤ 24; omega
  · subst e; show 0 ≤ f 6 ∧ f 6 ≤ 24; omega
  · subst e; show 0 ≤ f 9 ∧ f 9 ≤ 24; omega
theorem gp_at (h : gp_I J f) (b0 : 0 ≤ b) (b1 : b < 4) (hz : 0 < f (3 * b)) : (0 ≤ f (3 * b + 1) ∧ f (3 * b + 1) < J 1 0) ∧ -1 ≤ f (3 * b + 2) ∧ f (3 * b + 2) < J 1 0 := h.2.1 b b0 b1 hz
/-- the first 24 cells alone matter, and X -/
theorem gp_e (hW : mn_W J) (h : gp_I J f) (e : ∀ j : Int, 0 ≤ j → j < 24 → g j = f j) (hx : 0 ≤ g 38 ∧ g 38 < 30203) : gp_I J g := by
  have w2 := hW.2.2.1
  obtain ⟨h1, h2, h3, h4⟩ := h
  refine ⟨fun q q0 q1 => ?_, fun b b0 b1 => ?_, ?_, hx⟩
  · rw [e (12 + 2 * q) (by omega) (by omega), e (12 + 2 * q + 1) (by omega) (by omega)]; exact h1 q q0 q1
  · unfold gp_b
    rw [e (3 * b) (by omega) (by omega), e (3 * b + 1) (by omega) (by omega), e (3 * b + 2) (by omega) (by omega)]
    exact h2 b b0 b1
  · rw [e 0 (by decide) (by decide), e 3 (by decide) (by decide), e 6 (by decide) (by decide), e 9 (by decide) (by decide)]; exact h3
theorem gp_an (hW : mn_W J) (h : gp_I J f) : gp_I J (ds_u1 f 38 (mn_an (f 38))) := by
  have e : ∀ j : Int, j ≠ 38 → ds_u1 f 38 (mn_an (f 38)) j = f j := fun j hj => if_neg hj
  refine gp_e hW h (fun j _ j1 => e j (by omega)) ?_
  rw [show ds_u1 f 38 (mn_an (f 38)) 38 = mn_an (f 38) from if_pos rfl]
  exact mn_anB h.2.2.2.1
/-- a bunch is put elsewhere -/
theorem gp_t {v s : Int} (h : gp_I J f) (b0 : 0 ≤ b) (b1 : b < 4) (hv : 0 ≤ v ∧ v < J 1 0) (hs : -1 ≤ s ∧ s < J 1 0) : gp_I J (ds_u1 (ds_u1 f (3 * b + 1) v) (3 * b + 2) s) := by
  obtain ⟨h1, h2, h3, h4⟩ := h
  have e : ∀ j : Int, j ≠ 3 * b + 1 → j ≠ 3 * b + 2 → ds_u1 (ds_u1 f (3 * b + 1) v) (3 * b + 2) s j = f j := fun j p q => (if_neg q).trans (if_neg p)
  have e1 : ds_u1 (ds_u1 f (3 * b + 1) v) (3 * b + 2) s (3 * b + 1) = v := (if_neg (by omega)).trans (if_pos rfl)
  have e2 : ds_u1 (ds_u1 f (3 * b + 1) v) (3 * b + 2) s (3 * b + 2) = s := if_pos rfl
  generalize hg : ds_u1 (ds_u1 f (3 * b + 1) v) (3 * b + 2) s = g at *
  refine ⟨fun q q0 q1 => ?_, fun q q0 q1 => ?_, ?_, ?_⟩
  · rw [e (12 + 2 * q) (by omega) (by omega), e (12 + 2 * q + 1) (by omega) (by omega)]; exact h1 q q0 q1
  · unfold gp_b
    by_cases y : q = b
    · rw [y, e1, e2]; exact fun _ => ⟨hv, hs⟩
    · rw [e (3 * q) (by omega) (by omega), e (3 * q + 1) (by omega) (by omega), e (3 * q + 2) (by omega) (by omega)]
      exact h2 q q0 q1
  · rw [e 0 (by omega) (by omega), e 3 (by omega) (by omega), e 6 (by omega) (by omega), e 9 (by omega) (by omega)]; exact h3
  · rw [e 38 (by omega) (by omega)]; exact h4
theorem mn_tkA {s w size came : Int} {n : Nat} (h : mn_tk J X f size s came n ≠ 0) : mn_at J s n = true := by
  cases e : mn_at J s n with
  | true => rfl
  | false => exact absurd (if_pos (Or.inl e)) h
theorem gp_mv (hW : mn_W J) (b0 : 0 ≤ b) (b1 : b < 4) {s : Int} (hs : 0 ≤ s ∧ s < J 1 0) : ∀ (k w : Nat) (f : Int → Int), gp_I J f → (w : Int) + k ≤ J 1 1 → gp_I J (mn_mv J X b s k w f) ∧ ∀ j : Int, j ≠ 38 → j ≠ 3 * b + 1 → j ≠ 3 * b + 2 → mn_mv J X b s k w f j = f j := by
  intro k
  induction k with
  | zero => intro w f h _; exact ⟨h, fun _ _ _ _ => rfl⟩
  | succ k ih =>
    intro w f h hk
    have e : mn_mv J X b s (k + 1) w f = (if mn_tk J X f (f (3 * b)) s (f (3 * b + 2)) w = 0 then mn_mv J X b s k (w + 1) f
      else if 10 ≤ mn_tk J X f (f (3 * b)) s (f (3 * b + 2)) w then ds_u1 (ds_u1 f (3 * b + 1) (mn_ac J w s)) (3 * b + 2) s
      else if (f 38).tmod 10 < mn_tk J X f (f (3 * b)) s (f (3 * b + 2)) w then ds_u1 (ds_u1 (ds_u1 f 38 (mn_an (f 38))) (3 * b + 1) (mn_ac J w s)) (3 * b + 2) s
      else mn_mv J X b s k (w + 1) (ds_u1 f 38 (mn_an (f 38)))) := rfl
    rw [e]
    by_cases c1 : mn_tk J X f (f (3 * b)) s (f (3 * b + 2)) w = 0
    · rw [if_pos c1]
      exact ih (w + 1) f h (by omega)
    · have B := mn_acB hW (show (w : Int) < J 1 1 by omega) (mn_tkA (w := 0) c1)
      rw [if_neg c1]
      by_cases c2 : 10 ≤ mn_tk J X f (f (3 * b)) s (f (3 * b + 2)) w
      · rw [if_pos c2]
        exact ⟨gp_t h b0 b1 ⟨B.1, B.2.1⟩ ⟨by omega, hs.2⟩, fun j _ j1 j2 => (if_neg j2).trans (if_neg j1)⟩
      · rw [if_neg c2]
        have h' := gp_an hW h
        by_cases c3 : (f 38).tmod 10 < mn_tk J X f (f (3 * b)) s (f (3 * b + 2)) w
        · rw [if_pos c3]
          exact ⟨gp_t h' b0 b1 ⟨B.1, B.2.1⟩ ⟨by omega, hs.2⟩, fun j j0 j1 j2 => (if_neg j2).trans ((if_neg j1).trans (if_neg j0))⟩
        · rw [if_neg c3]
          have r := ih (w + 1) _ h' (by omega)
          exact ⟨r.1, fun j j0 j1 j2 => (r.2 j j0 j1 j2).trans (if_neg j0)⟩
/-- a move: it keeps the facts, the sizes -/
theorem gp_m1 (hW : mn_W J) (h : gp_I J f) (b0 : 0 ≤ b) (b1 : b < 4) (hz : 0 < f (3 * b)) : gp_I J (mn_m1 J X b f) ∧ ∀ j : Int, j ≠ 38 → j ≠ 3 * b + 1 → j ≠ 3 * b + 2 → mn_m1 J X b f j = f j := by
  have w1 := hW.2.1
  exact gp_mv hW b0 b1 (gp_at h b0 b1 hz).1 (J 1 1).toNat 0 f h (by omega)
theorem gp_rp (hW : mn_W J) (b0 : 0 ≤ b) (b1 : b < 4) : ∀ (k : Nat) (f : Int → Int), gp_I J f → 0 < f (3 * b) → gp_I J (mn_rp (mn_m1 J X b) k f) ∧ 0 < mn_rp (mn_m1 J X b) k f (3 * b) := by
  intro k
  induction k with
  | zero => intro f h hz; exact ⟨h, hz⟩
  | succ k ih =>
    intro f h hz
    have r := gp_m1 (X := X) hW h b0 b1 hz
    exact ih (mn_m1 J X b f) r.1 (by rw [r.2 (3 * b) (by omega) (by omega) (by omega)]; exact hz)
theorem gp_bb (hW : mn_W J) : ∀ (k : Nat) (b : Int) (f : Int → Int), gp_I J f → 0 ≤ b → b + k ≤ 4 → gp_I J (mn_bb J X k b f) := by
  intro k
  induction k with
  | zero => intro b f h _ _; exact h
  | succ k ih =>
    intro b f h b0 b1
    show gp_I J (mn_bb J X k (b + 1) (if f (3 * b) ≤ 0 then f else mn_rp (mn_m1 J X b) (X.1 (mn_np J f b)).toNat f))
    refine ih (b + 1) _ ?_ (by omega) (by omega)
    by_cases c : f (3 * b) ≤ 0
    · rw [if_pos c]; exact h
    · rw [if_neg c]
      exact (gp_rp hW b0 (by omega) _ f h (by omega)).1
theorem mn_go_o {j : Int} (hj : j ≠ 12 + 2 * p) : mn_go J p f j = f j := by
  unfold mn_go
  split
  · rfl
  · exact if_neg hj
theorem gp_go (hW : mn_W J) (h : gp_I J f) (p0 : 0 ≤ p) (p1 : p < J 1 2) : gp_I J (mn_go J p f) := by
  have w2 := hW.2.2.1
  obtain ⟨h1, h2, h3, h4⟩ := h
  refine ⟨gc_Pg hW h1 p0 p1, fun b b0 b1 => ?_, ?_, ?_⟩
  · unfold gp_b
    rw [mn_go_o (by omega), mn_go_o (by omega), mn_go_o (by omega)]
    exact h2 b b0 b1
  · rw [mn_go_o (by omega), mn_go_o (by omega), mn_go_o (by omega), mn_go_o (by omega)]; exact h3
  · rw [mn_go_o (by omega)]; exact h4
theorem gp_pp (hW : mn_W J) : ∀ (k : Nat) (p : Int) (f : Int → Int), gp_I J f → 0 ≤ p → p + k ≤ J 1 2 → gp_I J (mn_pp J k p f) := by
  intro k
  induction k with
  | zero => intro p f h _ _; exact h
  | succ k ih =>
    intro p f h p0 p1
    show gp_I J (mn_pp J k (p + 1) (if J 8 p = 0 then mn_go J p f else mn_go J p (mn_go J p f)))
    refine ih (p + 1) _ ?_ (by omega) (by omega)
    have g1 := gp_go hW h p0 (by omega)
    split
    · exact g1
    · exact gp_go hW g1 p0 (by omega)
theorem gp_hb (hW : mn_W J) : ∀ (k : Nat) (b : Int) (f : Int → Int), gp_I J f → 0 ≤ b → b + k ≤ 4 → gp_I J (mn_hb J k b f) := by
  have w0 := hW.1
  intro k
  induction k with
  | zero => intro b f h _ _; exact h
  | succ k ih =>
    intro b f h b0 b1
    show gp_I J (mn_hb J k (b + 1) (if f (3 * b) ≤ 0 then f else ds_u1 f (24 + f (3 * b + 1)) (lf_w (f (24 + f (3 * b + 1)) + f (3 * b) * J 3 (f (3 * b + 1))))))
    refine ih (b + 1) _ ?_ (by omega) (by omega)
    by_cases c : f (3 * b) ≤ 0
    · rw [if_pos c]; exact h
    · rw [if_neg c]
      have a := gp_at h b0 (by omega) (by omega)
      refine gp_e hW h (fun j _ j1 => if_neg (by omega)) ?_
      rw [show ∀ v : Int, ds_u1 f (24 + f (3 * b + 1)) v 38 = f 38 from fun v => if_neg (by omega)]
      exact h.2.2.2
/-- two bunches are one -/
def mn_j1 (b c : Int) (f : Int → Int) : Int → Int := ds_u1 (ds_u1 (ds_u1 (ds_u1 f (3 * b) (f (3 * b) + f (3 * c))) (3 * c) 0) (3 * c + 1) (-1)) (3 * c + 2) (-1)
theorem gp_j1 {c : Int} (h : gp_I J f) (b0 : 0 ≤ b) (hc : b < c) (c1 : c < 4) (hz : 0 < f (3 * b)) : gp_I J (mn_j1 b c f) := by
  obtain ⟨h1, h2, h3, h4⟩ := h
  have o : ∀ j : Int, j ≠ 3 * b → j ≠ 3 * c → j ≠ 3 * c + 1 → j ≠ 3 * c + 2 → mn_j1 b c f j = f j := fun j x1 x2 x3 x4 => (if_neg x4).trans ((if_neg x3).trans ((if_neg x2).trans (if_neg x1)))
  have eb : mn_j1 b c f (3 * b) = f (3 * b) + f (3 * c) := (if_neg (by omega)).trans ((if_neg (by omega)).trans ((if_neg (by omega)).trans (if_pos rfl)))
  have ec : mn_j1 b c f (3 * c) = 0 := (if_neg (by omega)).trans ((if_neg (by omega)).trans (if_pos rfl))
  generalize mn_j1 b c f = g at *
  refine ⟨fun q q0 q1 => ?_, fun q q0 q1 => ?_, ?_, ?_⟩
  · rw [o (12 + 2 * q) (by omega) (by omega) (by omega) (by omega), o (12 + 2 * q + 1) (by omega) (by omega) (by omega) (by omega)]; exact h1 q q0 q1
  · unfold gp_b
    by_cases y : q = c
    · rw [y, ec]; exact fun w => absurd w (by decide)
    · rw [o (3 * q + 1) (by omega) (by omega) (by omega) (by omega), o (3 * q + 2) (by omega) (by omega) (by omega) (by omega)]
      by_cases y2 : q = b
      · rw [y2]; exact fun _ => h2 b b0 (by omega) hz
      · rw [o (3 * q) (by omega) (by omega) (by omega) (by omega)]; exact h2 q q0 q1
  · have o0 := o 0
    have o3 := o 3
    have o6 := o 6
    have o9 := o 9
    rcases (show (b = 0 ∧ c = 1) ∨ (b = 0 ∧ c = 2) ∨ (b = 0 ∧ c = 3) ∨ (b = 1 ∧ c = 2) ∨ (b = 1 ∧ c = 3) ∨ (b = 2 ∧ c = 3) by omega) with ⟨e1, e2⟩ | ⟨e1, e2⟩ | ⟨e1, e2⟩ | ⟨e1, e2⟩ | ⟨e1, e2⟩ | ⟨e1, e2⟩
    · subst e1; subst e2
      have eb : g 0 = f 0 + f 3 := eb
      have ec : g 3 = 0 := ec
      rw [eb, ec, o6 (by decide) (by decide) (by decide) (by decide), o9 (by decide) (by decide) (by decide) (by decide)]; omega
    · subst e1; subst e2
      have eb : g 0 = f 0 + f 6 := eb
      have ec : g 6 = 0 := ec
      rw [eb, ec, o3 (by decide) (by decide) (by decide) (by decide), o9 (by decide) (by decide) (by decide) (by decide)]; omega
    · subst e1; subst e2
      have eb : g 0 = f 0 + f 9 := eb
      have ec : g 9 = 0 := ec
      rw [eb, ec, o3 (by decide) (by decide) (by decide) (by decide), o6 (by decide) (by decide) (by decide) (by decide)]; omega
    · subst e1; subst e2
      have eb : g 3 = f 3 + f 6 := eb
      have ec : g 6 = 0 := ec
      rw [eb, ec, o0 (by decide) (by decide) (by decide) (by decide), o9 (by decide) (by decide) (by decide) (by decide)]; omega
    · subst e1; subst e2
      have eb : g 3 = f 3 + f 9 := eb
      have ec : g 9 = 0 := ec
      rw [eb, ec, o0 (by decide) (by decide) (by decide) (by decide), o6 (by decide) (by decide) (by decide) (by decide)]; omega
    · subst e1; subst e2
      have eb : g 6 = f 6 + f 9 := eb
      have ec : g 9 = 0 := ec
      rw [eb, ec, o0 (by decide) (by decide) (by decide) (by decide), o3 (by decide) (by decide) (by decide) (by decide)]; omega
  · rw [o 38 (by omega) (by omega) (by omega) (by omega)]; exact h4
theorem gp_jc (b0 : 0 ≤ b) : ∀ (k : Nat) (c : Int) (f : Int → Int), gp_I J f → b < c → c + k ≤ 4 → gp_I J (mn_jc b k c f) := by
  intro k
  induction k with
  | zero => intro c f h _ _; exact h
  | succ k ih =>
    intro c f h hc c1
    show gp_I J (mn_jc b k (c + 1) (if f (3 * b) ≤ 0 ∨ f (3 * c) ≤ 0 ∨ f (3 * c + 1) ≠ f (3 * b + 1) then f else mn_j1 b c f))
    refine ih (c + 1) _ ?_ (by omega) (by omega)
    by_cases d : f (3 * b) ≤ 0 ∨ f (3 * c) ≤ 0 ∨ f (3 * c + 1) ≠ f (3 * b + 1)
    · rw [if_pos d]; exact h
    · rw [if_neg d]
      exact gp_j1 h b0 hc (by omega) (by omega)
theorem gp_jb : ∀ (k : Nat) (b : Int) (f : Int → Int), gp_I J f → 0 ≤ b → b + k ≤ 4 → gp_I J (mn_jb k b f) := by
  intro k
  induction k with
  | zero => intro b f h _ _; exact h
  | succ k ih =>
    intro b f h b0 b1
    show gp_I J (mn_jb k (b + 1) (mn_jc b (3 - b).toNat (b + 1) f))
    exact ih (b + 1) _ (gp_jc b0 _ _ f h (by omega) (by omega)) (by omega) (by omega)
theorem gp_min (hW : mn_W J) (h : gp_I J f) : gp_I J (mn_min J X f) := by
  have w2 := hW.2.2.1
  have g1 := gp_jb 4 0 _ (gp_hb hW 4 0 _ (gp_bb (X := X) hW 4 0 _ (gp_pp hW (J 1 2).toNat 0 f h (Int.le_refl 0) (by omega)) (Int.le_refl 0) (by decide)) (Int.le_refl 0) (by decide)) (Int.le_refl 0) (by decide)
  unfold mn_min
  refine gp_e hW g1 (fun j _ j1 => if_neg (by omega)) ?_
  rw [show ∀ (F : Int → Int) (v : Int), ds_u1 F 37 v 38 = F 38 from fun F v => if_neg (by decide)]
  exact g1.2.2.2
end GP
