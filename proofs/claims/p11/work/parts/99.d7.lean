/-! clauses and texts, with what they write -/
section D7
variable {f g : Int → Int} {n law : Int} {s t u z : lf_Z} {r : Int × Int} {W : cy_W} {b d w : Int} {t0 : Nat} {D : List Int} {C0 C B : Nat → Int → Int}
/-- a clause: its word, its numbers -/
def cs_w (f : Int → Int) (n b : Int) : Int := lx_T f n b
def cs_v (f : Int → Int) (n b : Int) : Int := if 22 < lx_T f n b then lx_V f n (ds_ad f n b) else 0
def cs_x (f : Int → Int) (n b : Int) : Int := if 22 < lx_T f n b ∧ tx_sh ((lx_T f n b - 23) * 5 + 2) ≠ 0 then lx_V f n (ds_ad f n (ds_ad f n (ds_ad f n b))) else 0
/-- the law l of the script u is the clause at b -/
def cs_L (f : Int → Int) (n : Int) (g : Int → Int) (C : Nat → Int → Int) (u : Nat) (l b : Int) : Prop := (0 ≤ C (2 + 7 * u) l ∧ C (2 + 7 * u) l ≤ C (3 + 7 * u) l ∧ C (3 + 7 * u) l ≤ C (7 * u) 1 ∧ C (3 + 7 * u) l - C (2 + 7 * u) l ≤ 299) ∧ cc l (C (7 * u + 1)) (C (2 + 7 * u) l) (C (3 + 7 * u) l) 0 g (fun N e => (dv_T f n l N 200).1 0 g e (ds_ad f n b))
/-- the script u holds the clauses D -/
def cs_F (f : Int → Int) (n : Int) (g : Int → Int) (C : Nat → Int → Int) (u : Nat) (D : List Int) : Prop := (C (7 * u) 7 = (D.length : Int) ∧ 0 ≤ C (7 * u) 1)
  ∧ (∀ (i : Nat) (b : Int), D[i]? = some b → C (4 + 7 * u) i = cs_w f n b ∧ C (5 + 7 * u) i = cs_v f n b ∧ C (6 + 7 * u) i = cs_x f n b)
  ∧ ∀ l : Int, 0 ≤ l → l < 3 → ((∀ b ∈ D, lx_T f n b ≠ l + 20) → C (2 + 7 * u) l = -1) ∧ ∀ b ∈ D, lx_T f n b = l + 20 → cs_L f n g C u l b
/-- the rows while a text is read -/
def cs_W (f : Int → Int) (n : Int) (g : Int → Int) (t0 : Nat) (D : List Int) (b : Int) : cy_W := fun o C => o = some t0 ∧ t0 < 4 ∧ cs_F f n g C t0 D ∧ C (7 * t0) 1 ≤ b ∧ b ≤ n ∧ n ≤ 300
/-- the row of entries, of ends, at law l -/
def cs_E (k : Nat) (l : Int) (W : cy_W) : cy_W := fun o C => ∃ (B : Nat → Int → Int) (u : Nat), W o B ∧ o = some u ∧ u < 4 ∧ C (k + 7 * u) = ds_u1 (B (k + 7 * u)) l (B (7 * u) 1) ∧ ∀ c : Nat, c ≠ k + 7 * u → C c = B c
/-- a clause more -/
def cs_K (a1 a2 a3 : Int) (W : cy_W) : cy_W := fun o C => ∃ (B : Nat → Int → Int) (u : Nat), W o B ∧ o = some u ∧ u < 4 ∧ (B (7 * u) 7 < 24 → C (7 * u) 7 = B (7 * u) 7 + 1 ∧ C (4 + 7 * u) = ds_u1 (B (4 + 7 * u)) (B (7 * u) 7) a1 ∧ C (5 + 7 * u) = ds_u1 (B (5 + 7 * u)) (B (7 * u) 7) a2 ∧ C (6 + 7 * u) = ds_u1 (B (6 + 7 * u)) (B (7 * u) 7) a3
  ∧ (∀ i : Int, i ≠ 7 → C (7 * u) i = B (7 * u) i) ∧ ∀ c : Nat, c ≠ 7 * u → c ≠ 4 + 7 * u → c ≠ 5 + 7 * u → c ≠ 6 + 7 * u → C c = B c)
/-- rows of the entries: what is written there -/
theorem fy_E {k : Nat} {l : Int} (hk : k = 2 ∨ k = 3) (h4 : t0 < 4) (h : cy_S z W f n g law s r) (hu : s.2.2 2 = some t0) : cy_S z (cs_E k l W) f n g law (lf_up s.1 (35 + (k + 7 * t0)) l (s.1 (35 + 7 * t0) 1), s.2.1, s.2.2) r := by
  refine cy_S_c h (lf_up_row (by omega)) (lf_up_row (by omega)) (lf_up_row (by omega)) (fun hr => ⟨fun c => s.1 (35 + c), t0, h.2.2.2.2.2.2.1 hr, hu, h4, ?_, fun c hc => lf_up_row (by omega)⟩) (fun hK => cy_Ku hK rfl hu (fun c hc => lf_up_row (by omega)))
  exact (tp_row : lf_up s.1 (35 + (k + 7 * t0)) l (s.1 (35 + 7 * t0) 1) (35 + (k + 7 * t0)) = _)
theorem fy_57 {a1 a2 a3 : Int} {Q : lf_Z → Prop} (h4 : t0 < 4) (h : cy_S z W f n g law s r) (hu : s.2.2 2 = some t0) (k : ∀ t : lf_Z, t.2 = s.2 → cy_S z (cs_K a1 a2 a3 W) f n g law t r → Q t) : fw_57 t0 a1 a2 a3 Q s := by
  unfold fw_57
  intro _
  refine ⟨fun c => k s rfl (cy_S_c h rfl rfl rfl (fun hr => ⟨fun c => s.1 (35 + c), t0, h.2.2.2.2.2.2.1 hr, hu, h4, fun q => ?_⟩) (fun hK => hK)), fun c _ _ _ => ?_⟩
  · have q : s.1 (35 + 7 * t0) 7 < 24 := q
    omega
  have e1 : (lf_up s.1 (39 + 7 * t0) (s.1 (35 + 7 * t0) 7) a1) (35 + 7 * t0) 7 = s.1 (35 + 7 * t0) 7 := lf_up_c (by omega)
  rw [e1]
  have e2 : (lf_up (lf_up s.1 (39 + 7 * t0) (s.1 (35 + 7 * t0) 7) a1) (40 + 7 * t0) (s.1 (35 + 7 * t0) 7) a2) (35 + 7 * t0) 7 = s.1 (35 + 7 * t0) 7 := (lf_up_c (by omega)).trans e1
  rw [e2]
  have e3 : (lf_up (lf_up (lf_up s.1 (39 + 7 * t0) (s.1 (35 + 7 * t0) 7) a1) (40 + 7 * t0) (s.1 (35 + 7 * t0) 7) a2) (41 + 7 * t0) (s.1 (35 + 7 * t0) 7) a3) (35 + 7 * t0) 7 = s.1 (35 + 7 * t0) 7 := (lf_up_c (by omega)).trans e2
  rw [e3]
  have oth : ∀ c : Nat, c ≠ 35 + 7 * t0 → c ≠ 39 + 7 * t0 → c ≠ 40 + 7 * t0 → c ≠ 41 + 7 * t0 → (lf_up (lf_up (lf_up (lf_up s.1 (39 + 7 * t0) (s.1 (35 + 7 * t0) 7) a1) (40 + 7 * t0) (s.1 (35 + 7 * t0) 7) a2) (41 + 7 * t0) (s.1 (35 + 7 * t0) 7) a3) (35 + 7 * t0) 7 (s.1 (35 + 7 * t0) 7 + 1)) c = s.1 c := fun c c0 c1 c2 c3 => (lf_up_row c0).trans ((lf_up_row c3).trans ((lf_up_row c2).trans (lf_up_row c1)))
  refine k _ rfl (cy_S_c h (oth 31 (by omega) (by omega) (by omega) (by omega)) (oth 32 (by omega) (by omega) (by omega) (by omega)) (oth 33 (by omega) (by omega) (by omega) (by omega)) (fun hr => ⟨fun c => s.1 (35 + c), t0, h.2.2.2.2.2.2.1 hr, hu, h4, fun _ => ⟨lf_up_s, ?_, ?_, ?_, fun i hi => ?_, fun c c0 c1 c2 c3 => oth _ (by omega) (by omega) (by omega) (by omega)⟩⟩) (fun hK => cy_Ku hK rfl hu (fun c hc => oth c (by omega) (by omega) (by omega) (by omega))))
  · show (lf_up (lf_up (lf_up (lf_up s.1 (39 + 7 * t0) (s.1 (35 + 7 * t0) 7) a1) (40 + 7 * t0) (s.1 (35 + 7 * t0) 7) a2) (41 + 7 * t0) (s.1 (35 + 7 * t0) 7) a3) (35 + 7 * t0) 7 (s.1 (35 + 7 * t0) 7 + 1)) (35 + (4 + 7 * t0)) = ds_u1 (s.1 (35 + (4 + 7 * t0))) (s.1 (35 + 7 * t0) 7) a1
    rw [show 35 + (4 + 7 * t0) = 39 + 7 * t0 by omega]
    exact (lf_up_row (by omega)).trans ((lf_up_row (by omega)).trans ((lf_up_row (by omega)).trans tp_row))
  · show (lf_up (lf_up (lf_up (lf_up s.1 (39 + 7 * t0) (s.1 (35 + 7 * t0) 7) a1) (40 + 7 * t0) (s.1 (35 + 7 * t0) 7) a2) (41 + 7 * t0) (s.1 (35 + 7 * t0) 7) a3) (35 + 7 * t0) 7 (s.1 (35 + 7 * t0) 7 + 1)) (35 + (5 + 7 * t0)) = ds_u1 (s.1 (35 + (5 + 7 * t0))) (s.1 (35 + 7 * t0) 7) a2
    rw [show 35 + (5 + 7 * t0) = 40 + 7 * t0 by omega]
    refine (lf_up_row (by omega)).trans ((lf_up_row (by omega)).trans ?_)
    rw [tp_row, lf_up_row (show 40 + 7 * t0 ≠ 39 + 7 * t0 by omega)]
  · show (lf_up (lf_up (lf_up (lf_up s.1 (39 + 7 * t0) (s.1 (35 + 7 * t0) 7) a1) (40 + 7 * t0) (s.1 (35 + 7 * t0) 7) a2) (41 + 7 * t0) (s.1 (35 + 7 * t0) 7) a3) (35 + 7 * t0) 7 (s.1 (35 + 7 * t0) 7 + 1)) (35 + (6 + 7 * t0)) = ds_u1 (s.1 (35 + (6 + 7 * t0))) (s.1 (35 + 7 * t0) 7) a3
    rw [show 35 + (6 + 7 * t0) = 41 + 7 * t0 by omega]
    refine (lf_up_row (by omega)).trans ?_
    rw [tp_row, lf_up_row (show 41 + 7 * t0 ≠ 40 + 7 * t0 by omega), lf_up_row (show 41 + 7 * t0 ≠ 39 + 7 * t0 by omega)]
  · exact (lf_up_i hi).trans ((lf_up_c (by omega)).trans ((lf_up_c (by omega)).trans (lf_up_c (by omega))))
/-- a deed: fw_58 -/
theorem fy_58 {Q : lf_Z → Prop} (hw : 23 ≤ w ∧ w ≤ 32) (hb : cl_tp f n) (h : cy_S z W f n g law s r) (k : ∀ (t : lf_Z) (x : Int), (r.1 = 0 → x = if tx_sh ((w - 23) * 5 + 2) ≠ 0 then lx_V f n (ds_ad f n (ds_ad f n r.2)) else 0) → cy_S z (cs_K w (lx_V f n r.2) x W) f n g law t (ds_bd r (ds_deed f n w)) → Q t) : fw_58 w Q s := by
  have e0 : ds_bd r (ds_deed f n w) = if tx_sh ((w - 23) * 5 + 2) = 0 then ds_bd r (ds_num f n (tx_sh ((w - 23) * 5)) (tx_sh ((w - 23) * 5 + 1))) else ds_bd (ds_bd (ds_bd r (ds_num f n (tx_sh ((w - 23) * 5)) (tx_sh ((w - 23) * 5 + 1)))) (ds_ex f n (tx_sh ((w - 23) * 5 + 2)))) (ds_num f n (tx_sh ((w - 23) * 5 + 3)) (tx_sh ((w - 23) * 5 + 4))) := by
    by_cases c : r.1 = 0
    · rw [ds_bd0 c, ds_bd0 c]
      unfold ds_deed
      by_cases q : tx_sh ((w - 23) * 5 + 2) = 0
      · rw [if_pos q]
      · rw [if_neg q]
    · rw [ds_bdF c, ds_bdF c, ds_bdF c, ds_bdF c]
      (split) <;> rfl
  rw [e0] at k
  have p68 : ∀ (v u : Int) (t : lf_Z) (r' : Int × Int), cy_S z W f n g law t r' → (∀ y : lf_Z, cy_S z (cs_K w v u W) f n g law y r' → Q y) → fw_58_p68 Q w v u t := by
    intro v u t r' ht kk
    unfold fw_58_p68
    exact ⟨fun _ => trivial, fun t1 e1 h1 => fy_57 h1 ht e1 (fun y _ hy => kk y hy)⟩
  have nm : ∀ {lo hi b : Int}, (ds_num f n lo hi b).1 = 0 → (ds_num f n lo hi b).2 = ds_ad f n b := by
    intro lo hi b q
    unfold ds_num at q ⊢
    split at q
    · split at q
      · rename_i a1 a2; rw [if_pos a1, if_pos a2]
      · exact absurd q (show (2 : Int) ≠ 0 by decide)
    · exact absurd q (show (1 : Int) ≠ 0 by decide)
  unfold fw_58
  intro _ _
  refine fy_num hb h (fun v t ht hv => ?_)
  intro _
  refine ⟨fun q => ?_, fun q => ?_⟩
  · have q' : tx_sh ((w - 23) * 5 + 2) = 0 := q
    rw [if_pos q'] at k
    refine p68 _ _ t _ ht (fun y hy => k y 0 (fun _ => by rw [if_neg (fun e => e q')]) ?_)
    by_cases c : (ds_bd r (ds_num f n (tx_sh ((w - 23) * 5)) (tx_sh ((w - 23) * 5 + 1)))).1 = 0
    · rw [hv c] at hy; exact hy
    · exact cy_F hy c
  · have q' : ¬ tx_sh ((w - 23) * 5 + 2) = 0 := q
    rw [if_neg q'] at k
    have key : ∀ j : Nat, j < 10 → (px_sh (j * 5 + 2)).toInt ≠ 1 := by decide +kernel
    have kw := key (w - 23).toNat (by omega)
    rw [← show ((w - 23) * 5 + 2).toNat = (w - 23).toNat * 5 + 2 by omega] at kw
    refine fy_ex kw hb ht (fun u hu _ _ => fy_num hb hu (fun v2 y hy hv2 => p68 _ _ y _ hy (fun i hi => ?_)))
    refine k i (if tx_sh ((w - 23) * 5 + 2) ≠ 0 then lx_V f n (ds_ad f n (ds_ad f n r.2)) else 0) (fun _ => rfl) ?_
    by_cases c : (ds_bd (ds_bd (ds_bd r (ds_num f n (tx_sh ((w - 23) * 5)) (tx_sh ((w - 23) * 5 + 1)))) (ds_ex f n (tx_sh ((w - 23) * 5 + 2)))) (ds_num f n (tx_sh ((w - 23) * 5 + 3)) (tx_sh ((w - 23) * 5 + 4)))).1 = 0
    · obtain ⟨c2, _⟩ := ds_bdZ c
      obtain ⟨c1, c3⟩ := ds_bdZ c2
      obtain ⟨c0, c4⟩ := ds_bdZ c1
      have x1 := hv c1
      have x2 := hv2 c
      obtain ⟨_, x4⟩ := ds_exZ c3
      have x5 : (ds_bd (ds_bd r (ds_num f n (tx_sh ((w - 23) * 5)) (tx_sh ((w - 23) * 5 + 1)))) (ds_ex f n (tx_sh ((w - 23) * 5 + 2)))).2 = ds_ad f n (ds_ad f n r.2) := by
        rw [ds_bd0 c1, x4]
        show ds_ad f n (ds_bd r (ds_num f n (tx_sh ((w - 23) * 5)) (tx_sh ((w - 23) * 5 + 1)))).2 = _
        rw [ds_bd0 c0, nm c4]
      rw [if_pos q']
      rw [x1, x2] at hi
      have x6 : (ds_bd (ds_bd r (ds_num f n (tx_sh ((w - 23) * 5)) (tx_sh ((w - 23) * 5 + 1)))) (ds_ex f n (tx_sh ((w - 23) * 5 + 2)))).2 = ds_ad f n (ds_ad f n r.2) := x5
      rw [← x6]
      exact hi
    · exact cy_F hi c
end D7
