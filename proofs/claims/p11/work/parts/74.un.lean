/-! undo -/
section UN
variable {s t : lf_Z} {A B f g : Int → Int} {x n0 n1 n2 p w : Int} {H : List rr_H}
/-- behind undo: people told since stand as told -/
def rr_un (p n2 : Int) (tl g : Int → Int) (j : Int) : Int := if 12 ≤ j ∧ j < 24 ∧ p ≤ (j - 12) / 2 ∧ (j - 12) / 2 < n2 then (if j % 2 = 0 then tl ((j - 12) / 2) else -1) else g j
/-- no harm where no stretch is, no way shut that isn't told -/
def rr_W (n0 n1 : Int) (f : Int → Int) : Prop := (∀ s : Int, n0 ≤ s → s < 12 → f (24 + s) = 0) ∧ ∀ w : Int, n1 ≤ w → w < 16 → bt_t (f 36) w = false
def rr_WH (n0 n1 : Int) (H : List rr_H) : Prop := ∀ h ∈ H, rr_W n0 h.2.1 h.2.2 ∧ h.2.1 ≤ n1
theorem rr_unN (h : ¬ (12 ≤ x ∧ x < 24)) {tl : Int → Int} : rr_un p n2 tl g x = g x := if_neg (fun q => h ⟨q.1, q.2.1⟩)
theorem rr_unO {q : Int} {tl : Int → Int} (h : q < p) (q0 : 0 ≤ q) (q6 : q < 6) : rr_un p n2 tl g (12 + 2 * q) = g (12 + 2 * q) ∧ rr_un p n2 tl g (12 + 2 * q + 1) = g (12 + 2 * q + 1) := ⟨if_neg (fun c => by omega), if_neg (fun c => by omega)⟩
theorem rr_unY {q : Int} {tl : Int → Int} (h : p ≤ q) (q0 : 0 ≤ q) (q6 : q < 6) (q2 : q < n2) : rr_un p n2 tl g (12 + 2 * q) = tl q ∧ rr_un p n2 tl g (12 + 2 * q + 1) = -1 := by
  unfold rr_un
  rw [if_pos (by omega), if_pos (by omega), if_pos (by omega), if_neg (by omega), show (12 + 2 * q - 12) / 2 = q by omega]
  exact ⟨rfl, rfl⟩
/-- what undo leaves of the reference's row -/
def rr_D2 (A B : Int → Int) : Prop := ∀ i : Int, ¬ (i = 3 ∨ i = 6 ∨ (114 ≤ i ∧ i < 126) ∨ (126 ≤ i ∧ i < 162 ∧ ((i - 126) % 6 = 3 ∨ (i - 126) % 6 = 4)) ∨ (14 ≤ i ∧ i < 50 ∧ (i - 14) % 3 = 2) ∨ (50 ≤ i ∧ i < 114 ∧ (i - 50) % 4 = 3)) → B i = A i
def rr_U1 (A B : Int → Int) (x k : Int) (w : Int) : Prop := ∀ j : Int, 0 ≤ j → j < k → B (50 + 4 * j + 3) = if w ≤ j then 1 else if bt_t (A (x + 2)) j = true then 1 else 0
def rr_U2 (A B : Int → Int) (x k : Int) : Prop := B 3 = A (x + 3) ∧ B 6 = A (x + 4) ∧ ∀ j : Int, 0 ≤ j → j < k → B (114 + j) = A (x + 5 + j)
def rr_U3 (A B : Int → Int) (x k : Int) (p : Int) : Prop := ∀ q : Int, 0 ≤ q → q < k → B (126 + 6 * q + 3) = (if p ≤ q then A (126 + 6 * q + 5) else A (x + 17 + 2 * q)) ∧ B (126 + 6 * q + 4) = (if p ≤ q then -1 else A (x + 18 + 2 * q))
theorem fl_191d {a v : Int} {Q : lf_Z → Prop} (h : Q (lf_up s.1 96 (126 + 6 * a + 3) v, s.2.1, s.2.2)) : fw_191d a v Q s := by unfold fw_191d; exact fun _ => h
theorem fl_191e {a v : Int} {Q : lf_Z → Prop} (h : Q (lf_up s.1 96 (126 + 6 * a + 4) v, s.2.1, s.2.2)) : fw_191e a v Q s := by unfold fw_191e; exact fun _ => h
theorem fl_239e {a : Int} {Q : Int → lf_Z → Prop} (h : Q (s.1 96 (126 + 6 * a + 5)) s) : fw_239e a Q s := by unfold fw_239e; exact fun _ => h
/-- the reference's loops, behind the count -/
theorem fl_238p {Q : Int → lf_Z → Prop} (hx : 278 ≤ x) (hA : s.1 96 = A) (h1 : 0 ≤ A 1 ∧ A 1 ≤ 16) (h2 : 0 ≤ A 2 ∧ A 2 ≤ 6) (h0 : 0 ≤ A 0 ∧ A 0 ≤ 12)
    (kk : ∀ t : lf_Z, rr_f s t → rr_D2 A (t.1 96) → rr_U1 A (t.1 96) x (A 1) (A (x + 1)) → rr_U2 A (t.1 96) x 12 → rr_U3 A (t.1 96) x (A 2) (A x) → (∀ q : Int, 0 ≤ q → q < A 0 → t.1 96 (14 + 3 * q + 2) = A (x + 29 + q)) → (∀ q : Int, A 0 ≤ q → q < 12 → t.1 96 (14 + 3 * q + 2) = A (14 + 3 * q + 2)) → Q (A 9) t) : fw_238_p40L Q x 0 s := by
  have p254 : ∀ t : lf_Z, rr_f s t → rr_D2 A (t.1 96) → rr_U1 A (t.1 96) x (A 1) (A (x + 1)) → rr_U2 A (t.1 96) x 12 → rr_U3 A (t.1 96) x (A 2) (A x) → (∀ q : Int, 0 ≤ q → q < 12 → t.1 96 (14 + 3 * q + 2) = A (14 + 3 * q + 2)) → fw_238_p254L Q x 0 t := by
    intro t tf tD u1 u2 u3 td
    refine ⟨fun k t => 0 ≤ k ∧ k ≤ A 0 ∧ rr_f s t ∧ rr_D2 A (t.1 96) ∧ rr_U1 A (t.1 96) x (A 1) (A (x + 1)) ∧ rr_U2 A (t.1 96) x 12 ∧ rr_U3 A (t.1 96) x (A 2) (A x) ∧ (∀ q : Int, 0 ≤ q → q < k → t.1 96 (14 + 3 * q + 2) = A (x + 29 + q)) ∧ ∀ q : Int, k ≤ q → q < 12 → t.1 96 (14 + 3 * q + 2) = A (14 + 3 * q + 2), ?_, ⟨Int.le_refl 0, h0.1, tf, tD, u1, u2, u3, fun q a b => by omega, td⟩⟩
    intro k t ⟨k0, k1, tf, tD, u1, u2, u3, td, te⟩
    have e0 : t.1 96 0 = A 0 := tD 0 (by omega)
    have e9 : t.1 96 9 = A 9 := tD 9 (by omega)
    unfold fw_238_p254
    intro _ _
    rw [e0, e9]
    refine ⟨fun q => ?_, fun q _ _ => ?_⟩
    · have hk : k = A 0 := by omega
      rw [hk] at td te
      exact kk t tf tD u1 u2 u3 td te
    · rw [tD (x + 29 + k) (by omega)]
      have e : ∀ j : Int, j ≠ 14 + 3 * k + 2 → ((lf_up t.1 96 (14 + 3 * k + 2) (A (x + 29 + k)), t.2.1, t.2.2) : lf_Z).1 96 j = t.1 96 j := fun j hj => zu_i hj
      refine ⟨by omega, by omega, rr_fu tf, fun i hi => (e i (by omega)).trans (tD i hi), fun j j0 j1 => (e _ (by omega)).trans (u1 j j0 j1), ⟨(e 3 (by omega)).trans u2.1, (e 6 (by omega)).trans u2.2.1, fun j j0 j1 => (e _ (by omega)).trans (u2.2.2 j j0 j1)⟩, fun j j0 j1 => ⟨(e _ (by omega)).trans (u3 j j0 j1).1, (e _ (by omega)).trans (u3 j j0 j1).2⟩, fun j j0 j1 => ?_, fun j j0 j1 => (e _ (by omega)).trans (te j (by omega) j1)⟩
      by_cases y : j = k
      · rw [y]; exact zu_s
      · exact (e _ (by omega)).trans (td j j0 (by omega))
  have p165 : ∀ t : lf_Z, rr_f s t → rr_D2 A (t.1 96) → rr_U1 A (t.1 96) x (A 1) (A (x + 1)) → rr_U2 A (t.1 96) x 12 → (∀ q : Int, 0 ≤ q → q < 12 → t.1 96 (14 + 3 * q + 2) = A (14 + 3 * q + 2)) → fw_238_p165L Q x 0 t := by
    intro t tf tD u1 u2 td
    refine ⟨fun k t => 0 ≤ k ∧ k ≤ A 2 ∧ rr_f s t ∧ rr_D2 A (t.1 96) ∧ rr_U1 A (t.1 96) x (A 1) (A (x + 1)) ∧ rr_U2 A (t.1 96) x 12 ∧ rr_U3 A (t.1 96) x k (A x) ∧ ∀ q : Int, 0 ≤ q → q < 12 → t.1 96 (14 + 3 * q + 2) = A (14 + 3 * q + 2), ?_, ⟨Int.le_refl 0, h2.1, tf, tD, u1, u2, fun q a b => by omega, td⟩⟩
    intro k t ⟨k0, k1, tf, tD, u1, u2, u3, td⟩
    have e2 : t.1 96 2 = A 2 := tD 2 (by omega)
    have ex : t.1 96 x = A x := tD x (by omega)
    unfold fw_238_p165
    intro _ _
    rw [e2, ex]
    have fin : ∀ v1 v2 : Int, v1 = (if A x ≤ k then A (126 + 6 * k + 5) else A (x + 17 + 2 * k)) → v2 = (if A x ≤ k then -1 else A (x + 18 + 2 * k)) → k < A 2 → (fun k t => 0 ≤ k ∧ k ≤ A 2 ∧ rr_f s t ∧ rr_D2 A (t.1 96) ∧ rr_U1 A (t.1 96) x (A 1) (A (x + 1)) ∧ rr_U2 A (t.1 96) x 12 ∧ rr_U3 A (t.1 96) x k (A x) ∧ ∀ q : Int, 0 ≤ q → q < 12 → t.1 96 (14 + 3 * q + 2) = A (14 + 3 * q + 2)) (k + 1) ((lf_up ((lf_up t.1 96 (126 + 6 * k + 3) v1, t.2.1, t.2.2) : lf_Z).1 96 (126 + 6 * k + 4) v2, t.2.1, t.2.2) : lf_Z) := by
      intro v1 v2 e1 e2 lt
      have e : ∀ j : Int, j ≠ 126 + 6 * k + 3 → j ≠ 126 + 6 * k + 4 → ((lf_up ((lf_up t.1 96 (126 + 6 * k + 3) v1, t.2.1, t.2.2) : lf_Z).1 96 (126 + 6 * k + 4) v2, t.2.1, t.2.2) : lf_Z).1 96 j = t.1 96 j := fun j hj hk => (zu_i hk).trans (zu_i hj)
      refine ⟨by omega, by omega, rr_fu (rr_fu tf), fun i hi => (e i (by omega) (by omega)).trans (tD i hi), fun j j0 j1 => (e _ (by omega) (by omega)).trans (u1 j j0 j1), ⟨(e 3 (by omega) (by omega)).trans u2.1, (e 6 (by omega) (by omega)).trans u2.2.1, fun j j0 j1 => (e _ (by omega) (by omega)).trans (u2.2.2 j j0 j1)⟩, fun j j0 j1 => ?_, fun j j0 j1 => (e _ (by omega) (by omega)).trans (td j j0 j1)⟩
      by_cases y : j = k
      · rw [y]
        exact ⟨(zu_i (by omega)).trans (zu_s.trans e1), zu_s.trans e2⟩
      · exact ⟨(e _ (by omega) (by omega)).trans (u3 j j0 (by omega)).1, (e _ (by omega) (by omega)).trans (u3 j j0 (by omega)).2⟩
    have p210 : ∀ v1 : Int, v1 = (if A x ≤ k then A (126 + 6 * k + 5) else A (x + 17 + 2 * k)) → k < A 2 → fw_238_p210 (fun k t => 0 ≤ k ∧ k ≤ A 2 ∧ rr_f s t ∧ rr_D2 A (t.1 96) ∧ rr_U1 A (t.1 96) x (A 1) (A (x + 1)) ∧ rr_U2 A (t.1 96) x 12 ∧ rr_U3 A (t.1 96) x k (A x) ∧ ∀ q : Int, 0 ≤ q → q < 12 → t.1 96 (14 + 3 * q + 2) = A (14 + 3 * q + 2)) Q x k k v1 t := by
      intro v1 e1 lt
      unfold fw_238_p210
      refine fl_191d (fun _ => ?_)
      intro _
      have ex' : ((lf_up t.1 96 (126 + 6 * k + 3) v1, t.2.1, t.2.2) : lf_Z).1 96 x = A x := (zu_i (by omega)).trans ex
      have e18 : ((lf_up t.1 96 (126 + 6 * k + 3) v1, t.2.1, t.2.2) : lf_Z).1 96 (x + 18 + 2 * k) = A (x + 18 + 2 * k) := (zu_i (by omega)).trans (tD _ (by omega))
      rw [ex', e18]
      intro _
      refine ⟨fun q => ?_, fun q _ => ?_⟩
      · unfold fw_238_p243
        exact fl_191e (fin v1 (-1) e1 (by rw [if_pos q]) lt)
      · unfold fw_238_p243
        exact fl_191e (fin v1 _ e1 (by rw [if_neg q]) lt)
    refine ⟨fun q => ?_, fun q _ _ => ⟨fun c => fl_239e ?_, fun c _ => ?_⟩⟩
    · have hk : k = A 2 := by omega
      rw [hk] at u3
      exact p254 t tf tD u1 u2 u3 td
    · rw [tD (126 + 6 * k + 5) (by omega)]
      exact p210 _ (by rw [if_pos c]) (by omega)
    · rw [tD (x + 17 + 2 * k) (by omega)]
      exact p210 _ (by rw [if_neg c]) (by omega)
  have p132 : ∀ t : lf_Z, rr_f s t → rr_D2 A (t.1 96) → rr_U1 A (t.1 96) x (A 1) (A (x + 1)) → t.1 96 3 = A (x + 3) → t.1 96 6 = A (x + 4) → (∀ q : Int, 0 ≤ q → q < 12 → t.1 96 (14 + 3 * q + 2) = A (14 + 3 * q + 2)) → fw_238_p132L Q x 0 t := by
    intro t tf tD u1 a3 a6 td
    refine ⟨fun k t => 0 ≤ k ∧ k ≤ 12 ∧ rr_f s t ∧ rr_D2 A (t.1 96) ∧ rr_U1 A (t.1 96) x (A 1) (A (x + 1)) ∧ rr_U2 A (t.1 96) x k ∧ ∀ q : Int, 0 ≤ q → q < 12 → t.1 96 (14 + 3 * q + 2) = A (14 + 3 * q + 2), ?_, ⟨Int.le_refl 0, by decide, tf, tD, u1, ⟨a3, a6, fun q a b => by omega⟩, td⟩⟩
    intro k t ⟨k0, k1, tf, tD, u1, u2, td⟩
    unfold fw_238_p132
    intro _
    refine ⟨fun q => ?_, fun q _ _ => ?_⟩
    · have hk : k = 12 := by omega
      subst hk
      exact p165 t tf tD u1 u2 td
    · rw [tD (x + 5 + k) (by omega)]
      have e : ∀ j : Int, j ≠ 114 + k → ((lf_up t.1 96 (114 + k) (A (x + 5 + k)), t.2.1, t.2.2) : lf_Z).1 96 j = t.1 96 j := fun j hj => zu_i hj
      refine ⟨by omega, by omega, rr_fu tf, fun i hi => (e i (by omega)).trans (tD i hi), fun j j0 j1 => (e _ (by omega)).trans (u1 j j0 j1), ⟨(e 3 (by omega)).trans u2.1, (e 6 (by omega)).trans u2.2.1, fun j j0 j1 => ?_⟩, fun j j0 j1 => (e _ (by omega)).trans (td j j0 j1)⟩
      by_cases y : j = k
      · rw [y]; exact zu_s
      · exact (e _ (by omega)).trans (u2.2.2 j j0 (by omega))
  refine ⟨fun k t => 0 ≤ k ∧ k ≤ A 1 ∧ rr_f s t ∧ rr_D2 A (t.1 96) ∧ rr_U1 A (t.1 96) x k (A (x + 1)) ∧ ∀ q : Int, 0 ≤ q → q < 12 → t.1 96 (14 + 3 * q + 2) = A (14 + 3 * q + 2), ?_, ⟨Int.le_refl 0, h1.1, rr_fr, fun i _ => by rw [hA], fun q a b => by omega, fun q _ _ => by rw [hA]⟩⟩
  intro k t ⟨k0, k1, tf, tD, u1, td⟩
  have e1 : t.1 96 1 = A 1 := tD 1 (by omega)
  unfold fw_238_p40
  intro _ _
  rw [e1]
  refine ⟨fun q _ _ => ?_, fun q _ _ => ?_⟩
  · have hk : k = A 1 := by omega
    rw [hk] at u1
    rw [tD (x + 3) (by omega)]
    have e4 : (lf_up t.1 96 3 (A (x + 3))) 96 (x + 4) = A (x + 4) := (lf_up_i (by omega)).trans (tD _ (by omega))
    rw [e4]
    have e : ∀ j : Int, j ≠ 3 → j ≠ 6 → ((lf_up (lf_up t.1 96 3 (A (x + 3))) 96 6 (A (x + 4)), t.2.1, t.2.2) : lf_Z).1 96 j = t.1 96 j := fun j hj hk => (zu_i hk).trans (lf_up_i hj)
    exact p132 _ ⟨fun q hq => (zu_r hq).trans ((lf_up_row hq).trans (tf.1 q hq)), tf.2⟩ (fun i hi => (e i (by omega) (by omega)).trans (tD i hi)) (fun j j0 j1 => (e _ (by omega) (by omega)).trans (u1 j j0 j1)) ((zu_i (by decide)).trans lf_up_s) zu_s (fun j j0 j1 => (e _ (by omega) (by omega)).trans (td j j0 j1))
  · rw [tD (x + 1) (by omega)]
    have fin : ∀ v : Int, v = (if A (x + 1) ≤ k then 1 else if bt_t (A (x + 2)) k = true then 1 else 0) → fw_238_p94 (fun k t => 0 ≤ k ∧ k ≤ A 1 ∧ rr_f s t ∧ rr_D2 A (t.1 96) ∧ rr_U1 A (t.1 96) x k (A (x + 1)) ∧ ∀ q : Int, 0 ≤ q → q < 12 → t.1 96 (14 + 3 * q + 2) = A (14 + 3 * q + 2)) Q x k (50 + 4 * k + 3) v t := by
      intro v hv
      unfold fw_238_p94
      intro _
      have e : ∀ j : Int, j ≠ 50 + 4 * k + 3 → ((lf_up t.1 96 (50 + 4 * k + 3) v, t.2.1, t.2.2) : lf_Z).1 96 j = t.1 96 j := fun j hj => zu_i hj
      refine ⟨by omega, by omega, rr_fu tf, fun i hi => (e i (by omega)).trans (tD i hi), fun j j0 j1 => ?_, fun j j0 j1 => (e _ (by omega)).trans (td j j0 j1)⟩
      by_cases y : j = k
      · rw [y]; exact zu_s.trans hv
      · exact (e _ (by omega)).trans (u1 j j0 (by omega))
    refine ⟨fun c => ?_, fun c _ => ?_⟩
    · unfold fw_238_p89
      exact fin 1 (by rw [if_pos c])
    · rw [tD (x + 2) (by omega)]
      refine fl_210 k0 (by omega) ⟨fun z => fin 0 (by rw [if_neg c, z]; rfl), fun z => ?_⟩
      unfold fw_238_p89
      exact fin 1 (by rw [if_neg c, z]; rfl)
/-- undo of the reference -/
theorem fl_238 {tl : Int → Int} {Q : Int → lf_Z → Prop} (hn0 : 0 ≤ s.1 96 0 ∧ s.1 96 0 ≤ 12) (hn1 : 0 ≤ s.1 96 1 ∧ s.1 96 1 ≤ 16) (hn2 : 0 ≤ s.1 96 2 ∧ s.1 96 2 ≤ 6) (hS : rr_S (s.1 96 1) (s.1 96 2) f (s.1 96)) (hW : rr_W (s.1 96 0) (s.1 96 1) f) (h9 : s.1 96 9 = H.length) (hH : rr_hs (s.1 96) H) (hWH : rr_WH (s.1 96 0) (s.1 96 1) H) (htl : ∀ q : Int, 0 ≤ q → q < s.1 96 2 → s.1 96 (126 + 6 * q + 5) = tl q)
    (k0 : H = [] → Q (-1) s) (kk : ∀ (h : rr_H) (T : List rr_H) (t : lf_Z), H = h :: T → rr_f s t → rr_D2 (s.1 96) (lf_up t.1 96 9 (s.1 96 9) 96) → t.1 96 9 = T.length → rr_hs (t.1 96) T → rr_S (s.1 96 1) (s.1 96 2) (rr_un h.1 (s.1 96 2) tl h.2.2) (t.1 96) → Q T.length t) : fw_238 Q s := by
  unfold fw_238
  intro _
  rw [h9]
  cases H with
  | nil => exact ⟨fun c => absurd rfl c, fun _ => k0 rfl⟩
  | cons h T =>
    have hl : ((h :: T).length : Int) = (T.length : Int) + 1 := by rw [List.length_cons]; omega
    rw [hl]
    refine ⟨fun _ => ?_, fun c => absurd (by omega) c⟩
    rw [show (T.length : Int) + 1 - 1 = T.length by omega]
    obtain ⟨u, hu⟩ : ∃ u : lf_Z, u = (lf_up s.1 96 9 (T.length : Int), s.2.1, s.2.2) := ⟨_, rfl⟩
    rw [← hu]
    have ue : ∀ i : Int, i ≠ 9 → u.1 96 i = s.1 96 i := fun i hi => by rw [hu]; exact zu_i hi
    have u9 : u.1 96 9 = T.length := by rw [hu]; exact zu_s
    have uf : rr_f s u := by rw [hu]; exact rr_fu rr_fr
    obtain ⟨a1, a2, a3, a4, a5, a6, a7, a8⟩ := hH.1
    obtain ⟨hw, hw1⟩ := hWH h List.mem_cons_self
    generalize hx : 278 + 42 * (T.length : Int) = x at *
    have hx2 : 278 ≤ x := by omega
    refine fl_238p (s := u) (A := u.1 96) hx2 rfl (by rw [ue 1 (by decide)]; exact hn1) (by rw [ue 2 (by decide)]; exact hn2) (by rw [ue 0 (by decide)]; exact hn0) (fun t tf tD u1 u2 u3 td te => ?_)
    rw [ue 1 (by decide), ue (x + 1) (by omega), a2] at u1
    rw [ue 2 (by decide), ue x (by omega), a1] at u3
    rw [ue 0 (by decide)] at td te
    rw [u9]
    have t9 : t.1 96 9 = T.length := (tD 9 (by omega)).trans u9
    refine kk h T t rfl (rr_ft uf tf) (fun i hi => ?_) t9 ?_ ?_
    · by_cases y : i = 9
      · rw [y]; exact lf_up_s
      · exact (lf_up_i y).trans ((tD i hi).trans (ue i y))
    · exact rr_hsC T (fun g hg => Int.le_trans (hWH g (List.mem_cons_of_mem _ hg)).2 hn1.2) (fun i i0 i1 => (tD i (by omega)).trans (ue i (by omega))) hH.2
    · refine ⟨?_, ?_, fun b b0 b1 => ⟨?_, fun q => ⟨?_, ?_⟩⟩, fun q q0 q1 => ?_, fun q q0 q1 => ?_, fun w w0 w1 => ?_⟩
      · rw [rr_unN (by decide)]; exact u2.1.trans ((ue _ (by omega)).trans a4)
      · rw [rr_unN (by decide)]; exact u2.2.1.trans ((ue _ (by omega)).trans a5)
      · rw [rr_unN (by omega)]; exact (u2.2.2 (3 * b) (by omega) (by omega)).trans ((ue _ (by omega)).trans (a6 b b0 b1).1)
      · rw [rr_unN (by omega)] at q ⊢
        refine Eq.trans ?_ ((ue _ (by omega)).trans ((a6 b b0 b1).2 q).1)
        rw [show 114 + 3 * b + 1 = 114 + (3 * b + 1) by omega]
        exact u2.2.2 (3 * b + 1) (by omega) (by omega)
      · rw [rr_unN (by omega)] at q ⊢
        refine Eq.trans ?_ ((ue _ (by omega)).trans ((a6 b b0 b1).2 q).2)
        rw [show 114 + 3 * b + 2 = 114 + (3 * b + 2) by omega]
        exact u2.2.2 (3 * b + 2) (by omega) (by omega)
      · obtain ⟨v1, v2⟩ := u3 q q0 q1
        by_cases c : h.1 ≤ q
        · obtain ⟨g1, g2⟩ := rr_unY (g := h.2.2) (tl := tl) c q0 (by omega) q1
          rw [if_pos c] at v1 v2
          rw [g1, g2]
          exact ⟨v1.trans ((ue _ (by omega)).trans (htl q q0 q1)), v2⟩
        · obtain ⟨g1, g2⟩ := rr_unO (g := h.2.2) (tl := tl) (n2 := s.1 96 2) (show q < h.1 by omega) q0 (by omega)
          rw [if_neg c] at v1 v2
          rw [g1, g2]
          have a := a7 q q0 (by omega) (by omega)
          exact ⟨v1.trans ((ue _ (by omega)).trans a.1), v2.trans ((ue _ (by omega)).trans a.2)⟩
      · rw [rr_unN (by omega)]
        by_cases c : q < s.1 96 0
        · exact (td q q0 c).trans ((ue _ (by omega)).trans (a8 q q0 q1))
        · rw [te q (by omega) q1, ue _ (by omega), hS.2.2.2.2.1 q q0 q1, hW.1 q (by omega) q1, hw.1 q (by omega) q1]
      · rw [rr_unN (by decide), u1 w w0 w1]
        unfold rr_op
        by_cases c : h.2.1 ≤ w
        · rw [if_pos c, hw.2 w c (by omega)]; rfl
        · rw [if_neg c, ue (x + 2) (by omega), a3 w w0 (by omega)]
          cases bt_t (h.2.2 36) w <;> rfl
end UN
