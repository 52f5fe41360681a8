/-- what is fresh from cell 95 on -/
def px_fr (I : Nat → Nat → Int32) : Prop := ∀ a, 95 ≤ a → I a = px_IX a
def px_frP (P : Nat → Nat → Option Nat) : Prop := ∀ a, 95 ≤ a → P a = px_PX a
theorem px_fr_0 : px_fr px_IX := fun _ _ => rfl
theorem px_frP_0 : px_frP px_PX := fun _ _ => rfl
theorem px_fr_up {I : Nat → Nat → Int32} {k i : Nat} {x : Int32} (hk : k < 95) (h : px_fr I) : px_fr (px_up I k i x) := fun a ha => by rw [px_up_ne (by omega)]; exact h a ha
theorem px_frP_up {I : Nat → Nat → Option Nat} {k i : Nat} {x : Option Nat} (hk : k < 95) (h : px_frP I) : px_frP (px_up I k i x) := fun a ha => by rw [px_up_ne (by omega)]; exact h a ha
theorem px_fr_rw {I : Nat → Nat → Int32} {k : Nat} {g : Nat → Int32} (hk : k < 95) (h : px_fr I) : px_fr (px_rw I k g) := fun a ha => by rw [px_rw_ne (by omega)]; exact h a ha
theorem px_fr_fl {I : Nat → Nat → Int32} {k n : Nat} {v : Int32} (hk : k < 95) (h : px_fr I) : px_fr (px_fl I k n v) := px_fr_rw hk h
theorem px_mI_eq {I : Nat → Nat → Int32} (h : px_fr I) : px_mI I = I := by
  funext a b
  unfold px_mI
  rcases Nat.lt_or_ge a 95 with q | q
  · rw [px_bltY q]; rfl
  · rw [px_bltF q, h a q]; rfl
theorem px_mP_eq {P : Nat → Nat → Option Nat} (h : px_frP P) : px_mP P = P := by
  funext a b
  unfold px_mP
  rcases Nat.lt_or_ge a 95 with q | q
  · rw [px_bltY q]; rfl
  · rw [px_bltF q, h a q]; rfl
theorem px_mJ_eq : px_mJ px_JX = px_JX := by
  funext a b
  unfold px_mJ
  cases Nat.blt a 95 <;> rfl
/-- System.arraycopy of ints -/
def px_cy (I : Nat → Nat → Int32) (a b sp dp n : Nat) : Nat → Nat → Int32 := px_rw I b (va_cpy (I a) (I b) sp dp n)
theorem px_fr_cy {I : Nat → Nat → Int32} {a b sp dp n : Nat} (hk : b < 95) (h : px_fr I) : px_fr (px_cy I a b sp dp n) := px_fr_rw hk h
/-- the class's method k, on the fresh heap: its answer; the reference's cells stay fresh -/
def px_CX (ro : px_RO) (d k : Nat) (as : List Value) (r : Value) : Prop := ∃ I P, px_M ro d k as (px_shX, px_IX, px_JX, px_PX) (some r) (px_shX, I, px_JX, P) ∧ px_fr I ∧ px_frP P
/-- the reference's method k, its cells fresh -/
def px_RX (ro : px_RO) (d k : Nat) (as : List Value) (r : Value) : Prop := ∀ (Ic : Nat → Nat → Int32) (Jc : Nat → Nat → Int64) (Pc : Nat → Nat → Option Nat), ∃ hF, px_M ro d k as (px_shX, px_mI Ic, px_mJ Jc, px_mP Pc) (some r) hF ∧ hF.1 = px_shX
/-- both answer alike -/
theorem px_both {ro : px_RO} {d k1 k2 : Nat} {as1 as2 : List Value} {r : Value} (h1 : px_CX ro d k1 as1 r) (h2 : px_RX ro d k2 as2 r) : ∃ h h', px_M ro d k1 as1 px_hX (some r) h ∧ px_M ro d k2 as2 h (some r) h' ∧ h'.1 = px_shX := by
  obtain ⟨I, P, hM, hI, hP⟩ := h1
  obtain ⟨hF, hR, hs⟩ := h2 I px_JX P
  rw [px_mI_eq hI, px_mJ_eq, px_mP_eq hP] at hR
  exact ⟨_, hF, hM, hR, hs⟩
/-- the reference's copy -/
def px_cpR (I : Nat → Nat → Int32) (a b : Nat) : Nat → Nat → Int32 := px_rw I b (fun j => bif Nat.blt j 1538 then I a j else I b j)
theorem px_copy {ro : px_RO} {d a b na nb : Nat} {sh : List px_Sh} {I : Nat → Nat → Int32} {J : Nat → Nat → Int64} {P : Nat → Nat → Option Nat} (ha : sh[a]? = some (.inl (0, na))) (hb : sh[b]? = some (.inl (0, nb))) (hna : 1538 ≤ na) (hnb : 1538 ≤ nb) (hna2 : na < 2 ^ 31) (hnb2 : nb < 2 ^ 31) (hab : a ≠ b) (hsa : Nat.ble px_SC a = false) (hsb : Nat.blt b px_SC = true) : px_M ro (d + 1) 181 [.ref a, .ref b] (sh, I, J, P) none (sh, px_cpR I a b, J, P) := by
  refine px_E_seg 2 (σ' := (2, [(2, .int (nI 0)), (0, .ref a), (1, .ref b)], [], (sh, I, J, P))) rfl ?_
  have h := px_copy_loop (ro := ro) (d := d) (I := I) (J := J) (P := P) ha hb hna hnb hna2 hnb2 hab hsa hsb 1538 0 (by omega)
  have e : px_rw I b (fun j => bif Nat.blt j 0 then I a j else I b j) = I := by
    funext x y
    unfold px_rw
    by_cases hx : x = b
    · subst hx
      rw [show Nat.beq x x = true from Nat.beq_refl x]
      dsimp only [cond_true]
      rw [px_bltF (Nat.zero_le y)]
      rfl
    · rw [px_beqN hx]; rfl
  rw [e] at h
  exact h
