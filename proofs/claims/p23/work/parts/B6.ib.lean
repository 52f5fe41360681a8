/-! image and back of both sides -/
/-- the rows of odds stay -/
def pk_P (P P' : Nat → Option Nat) : Prop := P' 0 = P 0 ∧ P' 1 = P 1
section IB
variable {J K M : Nat → Int → Int} {s t u : lf_Z} {f f' g A B sv sw : Int → Int} {H H' G : List rr_H} {F V : Nat → Int → Int} {I I' : Nat → Int → Int} {P P' : Nat → Option Nat} {o : Option Nat} {a b c d r j n w : Int} {x y : Nat}
theorem ib_V' {x y c : Nat} {sp dp m : Int} (h : c ≠ y) : lf_cp F x y sp dp m c j = F c j := congrFun (bk_r h) j
theorem gj_We (e : ∀ c : Nat, 1 ≤ c → c < 14 → K c = J c) (h : mn_W J) : mn_W K := mn_Wr h (e 4 (by decide) (by decide)) (e 5 (by decide) (by decide)) (e 11 (by decide) (by decide)) (e 12 (by decide) (by decide)) (e 13 (by decide) (by decide)) (by rw [e 1 (by decide) (by decide)]) (by rw [e 1 (by decide) (by decide)]) (by rw [e 1 (by decide) (by decide)]; exact h.2.2.1)
/-- the stand's cells at x are copied to y -/
def ib_f (x y : Nat) (F : Nat → Int → Int) : Nat → Int → Int := lf_cp (lf_cp (lf_cp (lf_cp (lf_cp (lf_cp F (x + 1) (y + 1) 0 0 4) (x + 2) (y + 2) 0 0 4) (x + 3) (y + 3) 0 0 4) (x + 4) (y + 4) 0 0 6) (x + 5) (y + 5) 0 0 6) (x + 6) (y + 6) 0 0 12
def ib_F (x y : Nat) (F : Nat → Int → Int) : Nat → Int → Int := lf_up (lf_up (lf_up (ib_f x y F) y 6 (ib_f x y F x 6)) y 7 (ib_f x y F x 7)) y 8 (ib_f x y F x 8)
theorem ib_fo {k : Nat} (h : k < y + 1 ∨ y + 6 < k) : ib_f x y F k = F k := (bk_r (by omega)).trans ((bk_r (by omega)).trans ((bk_r (by omega)).trans ((bk_r (by omega)).trans ((bk_r (by omega)).trans (bk_r (by omega))))))
theorem ib_Fo {k : Nat} (h : k < y ∨ y + 6 < k) : ib_F x y F k = F k := (lf_up_row (by omega)).trans ((lf_up_row (by omega)).trans ((lf_up_row (by omega)).trans (ib_fo (by omega))))
theorem ib_FS (h : x + 6 < y ∨ y + 6 < x) : bk_S (ib_F x y F) F y x := by
  have ro : ∀ k : Nat, k ≠ y → ib_F x y F k = ib_f x y F k := fun k hk => (lf_up_row hk).trans ((lf_up_row hk).trans (lf_up_row hk))
  have xo : ib_f x y F x = F x := ib_fo (by omega)
  have v1 : ∀ j : Int, 0 ≤ j → j < 4 → ib_f x y F (y + 1) j = F (x + 1) j := fun j j0 j1 => by
    unfold ib_f
    rw [bk_r (by omega), bk_r (by omega), bk_r (by omega), bk_r (by omega), bk_r (by omega)]
    exact bk_s j0 j1
  have v2 : ∀ j : Int, 0 ≤ j → j < 4 → ib_f x y F (y + 2) j = F (x + 2) j := fun j j0 j1 => by
    unfold ib_f
    rw [bk_r (by omega), bk_r (by omega), bk_r (by omega), bk_r (by omega)]
    exact (bk_s j0 j1).trans (ib_V' (by omega))
  have v3 : ∀ j : Int, 0 ≤ j → j < 4 → ib_f x y F (y + 3) j = F (x + 3) j := fun j j0 j1 => by
    unfold ib_f
    rw [bk_r (by omega), bk_r (by omega), bk_r (by omega)]
    exact (bk_s j0 j1).trans ((ib_V' (by omega)).trans (ib_V' (by omega)))
  have v4 : ∀ j : Int, 0 ≤ j → j < 6 → ib_f x y F (y + 4) j = F (x + 4) j := fun j j0 j1 => by
    unfold ib_f
    rw [bk_r (by omega), bk_r (by omega)]
    exact (bk_s j0 j1).trans ((ib_V' (by omega)).trans ((ib_V' (by omega)).trans (ib_V' (by omega))))
  have v5 : ∀ j : Int, 0 ≤ j → j < 6 → ib_f x y F (y + 5) j = F (x + 5) j := fun j j0 j1 => by
    unfold ib_f
    rw [bk_r (by omega)]
    exact (bk_s j0 j1).trans ((ib_V' (by omega)).trans ((ib_V' (by omega)).trans ((ib_V' (by omega)).trans (ib_V' (by omega)))))
  have v6 : ∀ j : Int, 0 ≤ j → j < 12 → ib_f x y F (y + 6) j = F (x + 6) j := fun j j0 j1 => (bk_s j0 j1).trans ((ib_V' (by omega)).trans ((ib_V' (by omega)).trans ((ib_V' (by omega)).trans ((ib_V' (by omega)).trans (ib_V' (by omega))))))
  refine ⟨fun j j0 j1 => ⟨?_, ?_, ?_⟩, fun j j0 j1 => ⟨?_, ?_⟩, fun j j0 j1 => ?_, ?_, ?_, ?_⟩
  · rw [ro (y + 1) (by omega)]; exact v1 j j0 j1
  · rw [ro (y + 2) (by omega)]; exact v2 j j0 j1
  · rw [ro (y + 3) (by omega)]; exact v3 j j0 j1
  · rw [ro (y + 4) (by omega)]; exact v4 j j0 j1
  · rw [ro (y + 5) (by omega)]; exact v5 j j0 j1
  · rw [ro (y + 6) (by omega)]; exact v6 j j0 j1
  · unfold ib_F
    rw [lf_up_i (by decide), lf_up_i (by decide), lf_up_s, xo]
  · unfold ib_F
    rw [lf_up_i (by decide), lf_up_s, xo]
  · unfold ib_F
    rw [lf_up_s, xo]
theorem ib_Fi (h : x + 6 < y ∨ y + 6 < x) {i : Int} (hi : i ≠ 6 ∧ i ≠ 7 ∧ i ≠ 8) : ib_F x y F y i = F y i := by
  unfold ib_F
  rw [lf_up_i hi.2.2, lf_up_i hi.2.1, lf_up_i hi.1, ib_fo (by omega)]
/-- the steps' cells -/
def ib_g (x y : Nat) (F : Nat → Int → Int) : Nat → Int → Int := lf_cp (lf_cp F (x + 1) (y + 1) 0 0 1170) (x + 2) (y + 2) 0 0 30
def ib_G (x y : Nat) (F : Nat → Int → Int) : Nat → Int → Int := lf_up (lf_up (ib_g x y F) y 2 (ib_g x y F x 2)) y 3 (ib_g x y F x 3)
theorem ib_go {k : Nat} (h : k < y + 1 ∨ y + 2 < k) : ib_g x y F k = F k := (bk_r (by omega)).trans (bk_r (by omega))
theorem ib_Go {k : Nat} (h : k < y ∨ y + 2 < k) : ib_G x y F k = F k := (lf_up_row (by omega)).trans ((lf_up_row (by omega)).trans (ib_go (by omega)))
theorem ib_GS (h : x + 2 < y ∨ y + 2 < x) : bk_T (ib_G x y F) F y x := by
  have ro : ∀ k : Nat, k ≠ y → ib_G x y F k = ib_g x y F k := fun k hk => (lf_up_row hk).trans (lf_up_row hk)
  have xo : ib_g x y F x = F x := ib_go (by omega)
  refine ⟨fun j j0 j1 => ?_, fun j j0 j1 => ?_, ?_, ?_⟩
  · rw [ro (y + 1) (by omega)]
    unfold ib_g
    rw [bk_r (by omega)]
    exact bk_s j0 j1
  · rw [ro (y + 2) (by omega)]
    exact (bk_s j0 j1).trans (ib_V' (by omega))
  · unfold ib_G
    rw [lf_up_i (by decide), lf_up_s, xo]
  · unfold ib_G
    rw [lf_up_s, xo]
/-- the notes' cells -/
def ib_h (x y : Nat) (F : Nat → Int → Int) : Nat → Int → Int := lf_cp (lf_cp (lf_cp (lf_cp (lf_cp F (x + 1) (y + 1) 0 0 6) (x + 2) (y + 2) 0 0 6) (x + 3) (y + 3) 0 0 16) (x + 4) (y + 4) 0 0 4) (x + 5) (y + 5) 0 0 4
def ib_H (x y : Nat) (F : Nat → Int → Int) : Nat → Int → Int := lf_up (ib_h x y F) y 2 (ib_h x y F x 2)
def ib_N (F G : Nat → Int → Int) (x y : Nat) : Prop := (∀ j : Int, 0 ≤ j → j < 6 → F (x + 1) j = G (y + 1) j ∧ F (x + 2) j = G (y + 2) j) ∧ (∀ j : Int, 0 ≤ j → j < 16 → F (x + 3) j = G (y + 3) j) ∧ (∀ j : Int, 0 ≤ j → j < 4 → F (x + 4) j = G (y + 4) j ∧ F (x + 5) j = G (y + 5) j) ∧ F x 2 = G y 2
theorem ib_ho {k : Nat} (h : k < y + 1 ∨ y + 5 < k) : ib_h x y F k = F k := (bk_r (by omega)).trans ((bk_r (by omega)).trans ((bk_r (by omega)).trans ((bk_r (by omega)).trans (bk_r (by omega)))))
theorem ib_Ho {k : Nat} (h : k < y ∨ y + 5 < k) : ib_H x y F k = F k := (lf_up_row (by omega)).trans (ib_ho (by omega))
theorem ib_HS (h : x + 5 < y ∨ y + 5 < x) : ib_N (ib_H x y F) F y x := by
  have ro : ∀ k : Nat, k ≠ y → ib_H x y F k = ib_h x y F k := fun k hk => lf_up_row hk
  have xo : ib_h x y F x = F x := ib_ho (by omega)
  refine ⟨fun j j0 j1 => ⟨?_, ?_⟩, fun j j0 j1 => ?_, fun j j0 j1 => ⟨?_, ?_⟩, ?_⟩
  · rw [ro (y + 1) (by omega)]
    unfold ib_h
    rw [bk_r (by omega), bk_r (by omega), bk_r (by omega), bk_r (by omega)]
    exact bk_s j0 j1
  · rw [ro (y + 2) (by omega)]
    unfold ib_h
    rw [bk_r (by omega), bk_r (by omega), bk_r (by omega)]
    exact (bk_s j0 j1).trans (ib_V' (by omega))
  · rw [ro (y + 3) (by omega)]
    unfold ib_h
    rw [bk_r (by omega), bk_r (by omega)]
    exact (bk_s j0 j1).trans ((ib_V' (by omega)).trans (ib_V' (by omega)))
  · rw [ro (y + 4) (by omega)]
    unfold ib_h
    rw [bk_r (by omega)]
    exact (bk_s j0 j1).trans ((ib_V' (by omega)).trans ((ib_V' (by omega)).trans (ib_V' (by omega))))
  · rw [ro (y + 5) (by omega)]
    exact (bk_s j0 j1).trans ((ib_V' (by omega)).trans ((ib_V' (by omega)).trans ((ib_V' (by omega)).trans (ib_V' (by omega)))))
  · unfold ib_H
    rw [lf_up_s, xo]
/-- all three -/
theorem bk_Sc {F' G' : Nat → Int → Int} (e : ∀ k : Nat, x ≤ k → k ≤ x + 6 → F' k = F k) (e2 : ∀ k : Nat, y ≤ k → k ≤ y + 6 → G' k = V k) (h : bk_S F V x y) : bk_S F' G' x y := by
  unfold bk_S at *
  rw [e x (by omega) (by omega), e (x + 1) (by omega) (by omega), e (x + 2) (by omega) (by omega), e (x + 3) (by omega) (by omega), e (x + 4) (by omega) (by omega), e (x + 5) (by omega) (by omega), e (x + 6) (by omega) (by omega), e2 y (by omega) (by omega), e2 (y + 1) (by omega) (by omega), e2 (y + 2) (by omega) (by omega), e2 (y + 3) (by omega) (by omega), e2 (y + 4) (by omega) (by omega), e2 (y + 5) (by omega) (by omega), e2 (y + 6) (by omega) (by omega)]
  exact h
theorem bk_Tc {F' G' : Nat → Int → Int} (e : ∀ k : Nat, x ≤ k → k ≤ x + 2 → F' k = F k) (e2 : ∀ k : Nat, y ≤ k → k ≤ y + 2 → G' k = V k) (h : bk_T F V x y) : bk_T F' G' x y := by
  unfold bk_T at *
  rw [e x (by omega) (by omega), e (x + 1) (by omega) (by omega), e (x + 2) (by omega) (by omega), e2 y (by omega) (by omega), e2 (y + 1) (by omega) (by omega), e2 (y + 2) (by omega) (by omega)]
  exact h
theorem ib_Nc {F' G' : Nat → Int → Int} (e : ∀ k : Nat, x ≤ k → k ≤ x + 5 → F' k = F k) (e2 : ∀ k : Nat, y ≤ k → k ≤ y + 5 → G' k = V k) (h : ib_N F V x y) : ib_N F' G' x y := by
  unfold ib_N at *
  rw [e x (by omega) (by omega), e (x + 1) (by omega) (by omega), e (x + 2) (by omega) (by omega), e (x + 3) (by omega) (by omega), e (x + 4) (by omega) (by omega), e (x + 5) (by omega) (by omega), e2 y (by omega) (by omega), e2 (y + 1) (by omega) (by omega), e2 (y + 2) (by omega) (by omega), e2 (y + 3) (by omega) (by omega), e2 (y + 4) (by omega) (by omega), e2 (y + 5) (by omega) (by omega)]
  exact h
/-- image of the class -/
theorem ib_173 {Q : Int → lf_Z → Prop} (k : ∀ t : lf_Z, (t.1 78 0 = s.1 1 0 ∧ t.1 78 1 = s.1 1 1 ∧ t.1 78 2 = s.1 1 2 ∧ t.1 78 3 = s.1 0 11 ∧ t.1 78 4 = s.1 0 12) → bk_S t.1 s.1 79 15 → bk_T t.1 s.1 86 22 → ib_N t.1 s.1 89 25 → Q (s.1 15 7) t) : fw_173 Q s := by
  unfold fw_173
  obtain ⟨U, hU⟩ : ∃ U : Nat → Int → Int, U = lf_up (lf_up (lf_up (lf_up (lf_up s.1 78 0 (s.1 1 0)) 78 1 (s.1 1 1)) 78 2 (s.1 1 2)) 78 3 (s.1 0 11)) 78 4 (s.1 0 12) := ⟨_, rfl⟩
  have uc : ∀ c : Nat, c ≠ 78 → U c = s.1 c := fun c hc => by rw [hU]; exact (lf_up_row hc).trans ((lf_up_row hc).trans ((lf_up_row hc).trans ((lf_up_row hc).trans (lf_up_row hc))))
  have ud : U 78 0 = s.1 1 0 ∧ U 78 1 = s.1 1 1 ∧ U 78 2 = s.1 1 2 ∧ U 78 3 = s.1 0 11 ∧ U 78 4 = s.1 0 12 := by
    rw [hU]
    exact ⟨(lf_up_i (by decide)).trans ((lf_up_i (by decide)).trans ((lf_up_i (by decide)).trans ((lf_up_i (by decide)).trans lf_up_s))), (lf_up_i (by decide)).trans ((lf_up_i (by decide)).trans ((lf_up_i (by decide)).trans lf_up_s)), (lf_up_i (by decide)).trans ((lf_up_i (by decide)).trans lf_up_s), (lf_up_i (by decide)).trans lf_up_s, lf_up_s⟩
  show fw_174 _ (lf_up (lf_up (lf_up (lf_up (lf_up s.1 78 0 (s.1 1 0)) 78 1 (s.1 1 1)) 78 2 (s.1 1 2)) 78 3 (s.1 0 11)) 78 4 (s.1 0 12), s.2.1, s.2.2)
  rw [← hU]
  show fw_175 _ (ib_F 15 79 U, s.2.1, s.2.2)
  show fw_176 _ (ib_G 22 86 (ib_F 15 79 U), s.2.1, s.2.2)
  show Q ((ib_H 25 89 (ib_G 22 86 (ib_F 15 79 U))) 15 7) (ib_H 25 89 (ib_G 22 86 (ib_F 15 79 U)), s.2.1, s.2.2)
  have w15 : (ib_H 25 89 (ib_G 22 86 (ib_F 15 79 U))) 15 = s.1 15 := (ib_Ho (by decide)).trans ((ib_Go (by decide)).trans ((ib_Fo (by decide)).trans (uc 15 (by decide))))
  have w78 : (ib_H 25 89 (ib_G 22 86 (ib_F 15 79 U))) 78 = U 78 := (ib_Ho (by decide)).trans ((ib_Go (by decide)).trans (ib_Fo (by decide)))
  rw [w15]
  refine k _ ?_ ?_ ?_ ?_
  · show (ib_H 25 89 (ib_G 22 86 (ib_F 15 79 U))) 78 0 = _ ∧ (ib_H 25 89 (ib_G 22 86 (ib_F 15 79 U))) 78 1 = _ ∧ (ib_H 25 89 (ib_G 22 86 (ib_F 15 79 U))) 78 2 = _ ∧ (ib_H 25 89 (ib_G 22 86 (ib_F 15 79 U))) 78 3 = _ ∧ (ib_H 25 89 (ib_G 22 86 (ib_F 15 79 U))) 78 4 = _
    rw [w78]
    exact ud
  · exact bk_Sc (fun q q0 q1 => (ib_Ho (by omega)).trans (ib_Go (by omega))) (fun q q0 q1 => (uc q (by omega)).symm) (ib_FS (F := U) (x := 15) (y := 79) (by decide))
  · exact bk_Tc (fun q q0 q1 => ib_Ho (by omega)) (fun q q0 q1 => ((ib_Fo (by omega)).trans (uc q (by omega))).symm) (ib_GS (F := ib_F 15 79 U) (x := 22) (y := 86) (by decide))
  · exact ib_Nc (fun q q0 q1 => rfl) (fun q q0 q1 => ((ib_Go (by omega)).trans ((ib_Fo (by omega)).trans (uc q (by omega)))).symm) (ib_HS (F := ib_G 22 86 (ib_F 15 79 U)) (x := 25) (y := 89) (by decide))
/-- which script a text is -/
theorem ib_62 {Q : Option Nat → lf_Z → Prop} (n4 : s.1 0 11 ≤ 4) (h : Q (if 0 ≤ a ∧ a < s.1 0 11 then some a.toNat else none) s) : fw_62 a Q s := by
  unfold fw_62
  refine fl_15 ⟨fun q => ?_, fun q _ => ⟨fun q2 => ?_, fun q2 _ t e => ?_⟩⟩
  · unfold fw_62_p28
    rw [if_neg (fun y => by rw [decide_eq_true y.1, decide_eq_true (show a ≤ s.1 0 11 - 1 by omega)] at q; cases q)] at h
    exact h
  · exfalso
    rw [Bool.and_eq_true, decide_eq_true_eq, decide_eq_true_eq] at q
    omega
  · rw [Bool.and_eq_true, decide_eq_true_eq, decide_eq_true_eq] at q
    rw [if_pos ⟨q.1, by omega⟩] at h
    rw [e]
    exact h
theorem ib_61 {Q : lf_Z → Prop} (n4 : s.1 0 11 ≤ 4) (h : Q (lf_up s.1 0 12 a, s.2.1, lf_ur s.2.2 3 (if 0 ≤ a ∧ a < s.1 0 11 then some a.toNat else none))) : fw_61 a Q s := by
  unfold fw_61
  have e : (lf_up s.1 0 12 a) 0 11 = s.1 0 11 := lf_up_i (by decide)
  refine ib_62 (show (lf_up s.1 0 12 a) 0 11 ≤ 4 by rw [e]; exact n4) ?_
  show (((if 0 ≤ a ∧ a < (lf_up s.1 0 12 a) 0 11 then some a.toNat else none) = none → _) ∧ ∀ t22 : Nat, (if 0 ≤ a ∧ a < (lf_up s.1 0 12 a) 0 11 then some a.toNat else none) = some t22 → t22 < 4 → _)
  rw [e]
  refine ⟨fun q => ?_, fun t q _ => ?_⟩
  · rw [q] at h; exact h
  · rw [q] at h; exact h
/-- back of the class -/
theorem ib_177 {Q : Int → lf_Z → Prop} (hW : mn_W s.1) (n3 : 0 ≤ s.1 78 3 ∧ s.1 78 3 ≤ 4) (h0 : 0 ≤ s.1 78 0 ∧ s.1 78 0 ≤ s.1 1 0) (h1 : 0 ≤ s.1 78 1 ∧ s.1 78 1 ≤ s.1 1 1) (h2 : 0 ≤ s.1 78 2 ∧ s.1 78 2 ≤ s.1 1 2) (hw : ∀ w : Int, 0 ≤ w → w < s.1 78 1 → s.1 4 w < s.1 78 0 ∧ s.1 5 w < s.1 78 0)
    (k : ∀ t : lf_Z, (t.1 1 0 = s.1 78 0 ∧ t.1 1 1 = s.1 78 1 ∧ t.1 1 2 = s.1 78 2) → (t.1 0 11 = s.1 78 3 ∧ t.1 0 12 = s.1 78 4) → (t.2.2 3 = (if 0 ≤ s.1 78 4 ∧ s.1 78 4 < s.1 78 3 then some (s.1 78 4).toNat else none) ∧ pk_P s.2.2 t.2.2) → mn_W t.1 → bk_S t.1 s.1 15 79 → bk_T t.1 s.1 22 86 → ib_N t.1 s.1 25 89 → Q (s.1 79 7) t) : fw_177 Q s := by
  unfold fw_177
  refine fl_178 hW h0 h1 h2 hw (fun t tc t2 tn tW => ?_)
  have e78 : t.1 78 = s.1 78 := tc 78 (by decide) (by decide) (by decide) (by decide)
  obtain ⟨U, hU⟩ : ∃ U : Nat → Int → Int, U = lf_up t.1 0 11 (t.1 78 3) := ⟨_, rfl⟩
  have u0 : U 0 11 = s.1 78 3 := by rw [hU, lf_up_s, e78]
  have uc : ∀ c : Nat, c ≠ 0 → U c = t.1 c := fun c hc => by rw [hU]; exact lf_up_row hc
  have e4 : t.1 78 4 = s.1 78 4 := by rw [e78]
  rw [← hU, e4]
  refine ib_61 (s := (U, t.2.1, t.2.2)) (show U 0 11 ≤ 4 by rw [u0]; exact n3.2) ?_
  obtain ⟨W, hW2⟩ : ∃ W : Nat → Int → Int, W = lf_up U 0 12 (s.1 78 4) := ⟨_, rfl⟩
  obtain ⟨R, hR⟩ : ∃ R : Nat → Option Nat, R = lf_ur t.2.2 3 (if 0 ≤ s.1 78 4 ∧ s.1 78 4 < U 0 11 then some (s.1 78 4).toNat else none) := ⟨_, rfl⟩
  show fw_174b _ (lf_up U 0 12 (s.1 78 4), t.2.1, lf_ur t.2.2 3 (if 0 ≤ s.1 78 4 ∧ s.1 78 4 < U 0 11 then some (s.1 78 4).toNat else none))
  rw [← hW2, ← hR]
  have wc : ∀ c : Nat, c ≠ 0 → W c = t.1 c := fun c hc => by rw [hW2]; exact (lf_up_row hc).trans (uc c hc)
  show fw_175b _ (ib_F 79 15 W, t.2.1, R)
  show fw_176b _ (ib_G 86 22 (ib_F 79 15 W), t.2.1, R)
  show Q ((ib_H 89 25 (ib_G 86 22 (ib_F 79 15 W))) 15 7) (ib_H 89 25 (ib_G 86 22 (ib_F 79 15 W)), t.2.1, R)
  have w15 : (ib_H 89 25 (ib_G 86 22 (ib_F 79 15 W))) 15 = (ib_F 79 15 W) 15 := (ib_Ho (by decide)).trans (ib_Go (by decide))
  have lo : ∀ c : Nat, c < 15 → (ib_H 89 25 (ib_G 86 22 (ib_F 79 15 W))) c = W c := fun c hc => (ib_Ho (by omega)).trans ((ib_Go (by omega)).trans (ib_Fo (by omega)))
  have hS := ib_FS (F := W) (x := 79) (y := 15) (by decide)
  have hi : ∀ c : Nat, 78 ≤ c → c < 95 → W c = s.1 c := fun c c0 c1 => (wc c (by omega)).trans (tc c (by omega) (by omega) (by omega) (by omega))
  have e7 : (ib_F 79 15 W) 15 7 = s.1 79 7 := by rw [hS.2.2.2.2.1, hi 79 (by decide) (by decide)]
  rw [w15, e7]
  refine k _ ?_ ?_ ?_ ?_ ?_ ?_ ?_
  · show (ib_H 89 25 (ib_G 86 22 (ib_F 79 15 W))) 1 0 = _ ∧ (ib_H 89 25 (ib_G 86 22 (ib_F 79 15 W))) 1 1 = _ ∧ (ib_H 89 25 (ib_G 86 22 (ib_F 79 15 W))) 1 2 = _
    rw [lo 1 (by decide), wc 1 (by decide)]
    exact tn
  · show (ib_H 89 25 (ib_G 86 22 (ib_F 79 15 W))) 0 11 = _ ∧ (ib_H 89 25 (ib_G 86 22 (ib_F 79 15 W))) 0 12 = _
    rw [lo 0 (by decide), hW2]
    exact ⟨(lf_up_i (by decide)).trans u0, lf_up_s⟩
  · refine ⟨?_, ?_⟩
    · show R 3 = _
      rw [hR, u0]
      exact if_pos rfl
    · show R 0 = s.2.2 0 ∧ R 1 = s.2.2 1
      rw [hR, ← t2]
      exact ⟨rfl, rfl⟩
  · exact gj_We (fun c c0 c1 => (lo c (by omega)).trans (wc c (by omega))) tW
  · exact bk_Sc (fun q q0 q1 => (ib_Ho (by omega)).trans (ib_Go (by omega))) (fun q q0 q1 => (hi q (by omega) (by omega)).symm) hS
  · exact bk_Tc (fun q q0 q1 => ib_Ho (by omega)) (fun q q0 q1 => ((ib_Fo (by omega)).trans (hi q (by omega) (by omega))).symm) (ib_GS (F := ib_F 79 15 W) (x := 86) (y := 22) (by decide))
  · exact ib_Nc (fun q q0 q1 => rfl) (fun q q0 q1 => ((ib_Go (by omega)).trans ((ib_Fo (by omega)).trans (hi q (by omega) (by omega)))).symm) (ib_HS (F := ib_G 86 22 (ib_F 79 15 W)) (x := 89) (y := 25) (by decide))
end IB
