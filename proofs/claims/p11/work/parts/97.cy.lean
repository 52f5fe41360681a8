/-! the class's reader again, with what it writes: W is what is known of the scripts' rows -/
section CY
variable {f g : Int → Int} {n law : Int} {s t u z : lf_Z} {r : Int × Int}
abbrev cy_W : Type := Option Nat → (Nat → Int → Int) → Prop
variable {W : cy_W}
/-- what the reading leaves as it was: all but the rows of the script that is read -/
def cy_K (z t : lf_Z) : Prop := t.2.2 = z.2.2 ∧ t.1 0 = z.1 0 ∧ ∀ u : Nat, z.2.2 2 = some u → ∀ c : Nat, 35 ≤ c → (c < 35 + 7 * u ∨ 42 + 7 * u ≤ c) → t.1 c = z.1 c
theorem cy_Kr : cy_K z z := ⟨rfl, rfl, fun _ _ _ _ _ => rfl⟩
theorem cy_Ke (h : cy_K z s) (e : t.2.2 = s.2.2) (h2 : ∀ c : Nat, c = 0 ∨ 35 ≤ c → t.1 c = s.1 c) : cy_K z t := ⟨e.trans h.1, (h2 0 (Or.inl rfl)).trans h.2.1, fun u hu c c1 c2 => (h2 c (Or.inr c1)).trans (h.2.2 u hu c c1 c2)⟩
theorem cy_Ku {t0 : Nat} (h : cy_K z s) (e : t.2.2 = s.2.2) (hu : s.2.2 2 = some t0) (h2 : ∀ c : Nat, c = 0 ∨ (35 ≤ c ∧ (c < 35 + 7 * t0 ∨ 42 + 7 * t0 ≤ c)) → t.1 c = s.1 c) : cy_K z t := ⟨e.trans h.1, (h2 0 (Or.inl rfl)).trans h.2.1, fun u hu2 c c1 c2 => by
  have : t0 = u := by rw [h.1, hu2] at hu; exact (Option.some.inj hu).symm
  subst this
  exact (h2 c (Or.inr ⟨c1, c2⟩)).trans (h.2.2 _ hu2 c c1 c2)⟩
def cy_S (z : lf_Z) (W : cy_W) (f : Int → Int) (n : Int) (g : Int → Int) (law : Int) (t : lf_Z) (r : Int × Int) : Prop := t.1 32 = f ∧ t.1 31 1 = n ∧ t.1 33 = g ∧ t.1 31 6 = law ∧ (r.1 = 0 → rd_at t r.2 ∧ t.1 31 2 = 0 ∧ 0 ≤ r.2 ∧ 0 ≤ t.1 31 7 ∧ t.1 31 3 = -1) ∧ (r.1 ≠ 0 → t.1 31 2 = r.1 ∧ t.1 31 3 = r.2 ∧ t.1 31 8 = 1) ∧ (r.1 = 0 → W (t.2.2 2) (fun c => t.1 (35 + c))) ∧ cy_K z t
theorem cy_P (h : cy_S z W f n g law t r) : t.2.2 = z.2.2 := h.2.2.2.2.2.2.2.1
theorem cy_Wc (h : W (s.2.2 2) (fun c => s.1 (35 + c))) (e : t.2.2 = s.2.2) (h2 : ∀ c : Nat, 35 ≤ c → t.1 c = s.1 c) : W (t.2.2 2) (fun c => t.1 (35 + c)) := by
  have e2 : (fun c : Nat => t.1 (35 + c)) = (fun c : Nat => s.1 (35 + c)) := funext fun c => h2 _ (by omega)
  rw [e, e2]; exact h
theorem cy_S_c {W' : cy_W} (h : cy_S z W f n g law s r) (e : t.1 31 = s.1 31) (e2 : t.1 32 = s.1 32) (e3 : t.1 33 = s.1 33) (eK : r.1 = 0 → W' (t.2.2 2) (fun c => t.1 (35 + c))) (eZ : cy_K z s → cy_K z t) : cy_S z W' f n g law t r := by
  obtain ⟨h1, h2, h3, h4, h5, h6, _, h8⟩ := h
  refine ⟨e2.trans h1, ?_, e3.trans h3, ?_, fun c => ?_, fun c => ?_, eK, eZ h8⟩
  · rw [e]; exact h2
  · rw [e]; exact h4
  · unfold rd_at; rw [e, e2]; exact h5 c
  · rw [e]; exact h6 c
theorem cy_tok (h : cy_S z W f n g law s r) (c : r.1 = 0) : s.1 31 8 = lx_T f n r.2 := by
  have := (h.2.2.2.2.1 c).1.2.1
  rw [h.1, h.2.1] at this
  exact this
theorem cy_val (h : cy_S z W f n g law s r) (c : r.1 = 0) (q : s.1 31 8 = 2 ∨ s.1 31 8 = 3) : s.1 31 10 = lx_V f n r.2 := by
  have := (h.2.2.2.2.1 c).1.2.2.2 q
  rw [h.1, h.2.1] at this
  exact this
theorem cy_bad (h : cy_S z W f n g law s r) (c : r.1 ≠ 0) : s.1 31 8 = 1 := (h.2.2.2.2.2.1 c).2.2
/-- on: fw_31 -/
theorem fy_adv {Q : lf_Z → Prop} (hb : cl_tp f n) (h : cy_S z W f n g law s r) (k : ∀ t : lf_Z, cy_S z W f n g law t (ds_bd r (fun b => (0, ds_ad f n b))) → Q t) : fw_31 Q s := by
  by_cases c : r.1 = 0
  · obtain ⟨h1, h2, h3, h4, h5, _, h7, h8⟩ := h
    obtain ⟨a1, a2, a3, a4, a5⟩ := h5 c
    refine fl_31 a2 a4 (by rw [h1, h2]; exact hb) (fun t hF hA => k t ?_)
    rw [ds_bd0 c]
    have e1 : t.1 31 1 = n := (hF.2.1 1 (by decide) (by decide) (by decide) (by decide)).trans h2
    have e32 : t.1 32 = f := (hF.1 32 (by decide)).trans h1
    have e7 : s.1 31 7 = lx_E f n r.2 := by rw [← h1, ← h2]; exact a1.2.2.1
    rw [h1, h2, e7] at hA
    refine ⟨e32, e1, (hF.1 33 (by decide)).trans h3, (hF.2.1 6 (by decide) (by decide) (by decide) (by decide)).trans h4, fun _ => ⟨hA, (hF.2.1 2 (by decide) (by decide) (by decide) (by decide)).trans a2, cl_ad0 a3, ?_, (hF.2.1 3 (by decide) (by decide) (by decide) (by decide)).trans a5⟩, fun d => absurd rfl d, fun _ => cy_Wc (h7 c) (congrArg (·.2) hF.2.2) (fun c hc => hF.1 c (by omega)), cy_Ke h8 (congrArg (·.2) hF.2.2) (fun c hc => hF.1 c (by omega))⟩
    rw [hA.2.2.1]
    exact cl_E0 (cl_ad0 a3)
  · refine fl_31f ?_ (k s ?_)
    · rw [(h.2.2.2.2.2.1 c).1]; exact c
    · rw [ds_bdF c]; exact h
/-- a fault: fw_39 -/
theorem fy_fail {W' : cy_W} {k9 : Int} {Q : lf_Z → Prop} (hk : k9 ≠ 0) (h : cy_S z W f n g law s r) (k : ∀ t : lf_Z, cy_S z W' f n g law t (ds_bd r (fun b => (k9, b))) → Q t) : fw_39 k9 Q s := by
  obtain ⟨h1, h2, h3, h4, h5, h6, h7, h8⟩ := h
  unfold fw_39
  intro _
  by_cases c : r.1 = 0
  · obtain ⟨a1, a2, a3, a4⟩ := h5 c
    refine ⟨fun d => absurd a2 d, fun _ => ?_⟩
    unfold fw_39_p20
    refine k _ ?_
    rw [ds_bd0 c]
    have w : ∀ i : Int, i ≠ 2 → i ≠ 3 → i ≠ 8 → (lf_up (lf_up (lf_up s.1 31 2 k9) 31 3 (s.1 31 9)) 31 8 1) 31 i = s.1 31 i := fun i x y z => (lf_up_i z).trans ((lf_up_i y).trans (lf_up_i x))
    have w2 : ∀ c : Nat, c ≠ 31 → (lf_up (lf_up (lf_up s.1 31 2 k9) 31 3 (s.1 31 9)) 31 8 1) c = s.1 c := fun c x => (lf_up_row x).trans ((lf_up_row x).trans (lf_up_row x))
    refine ⟨(w2 32 (by decide)).trans h1, (w 1 (by decide) (by decide) (by decide)).trans h2, (w2 33 (by decide)).trans h3, (w 6 (by decide) (by decide) (by decide)).trans h4, fun d => absurd d hk, fun _ => ⟨?_, ?_, zu_s⟩, fun d => absurd d hk, cy_Ke h8 rfl (fun c hc => w2 c (by omega))⟩
    · show (lf_up (lf_up (lf_up s.1 31 2 k9) 31 3 (s.1 31 9)) 31 8 1) 31 2 = k9
      exact (lf_up_i (by decide)).trans ((lf_up_i (by decide)).trans lf_up_s)
    · show (lf_up (lf_up (lf_up s.1 31 2 k9) 31 3 (s.1 31 9)) 31 8 1) 31 3 = r.2
      exact ((lf_up_i (by decide)).trans lf_up_s).trans a1.1
  · obtain ⟨a1, a2, a3⟩ := h6 c
    refine ⟨fun _ => ?_, fun d => absurd (by rw [a1]; exact c) d⟩
    unfold fw_39_p20
    refine k _ ?_
    rw [ds_bdF c]
    have w : ∀ i : Int, i ≠ 8 → (lf_up s.1 31 8 1) 31 i = s.1 31 i := fun i x => lf_up_i x
    have w2 : ∀ c : Nat, c ≠ 31 → (lf_up s.1 31 8 1) c = s.1 c := fun c x => lf_up_row x
    exact ⟨(w2 32 (by decide)).trans h1, (w 1 (by decide)).trans h2, (w2 33 (by decide)).trans h3, (w 6 (by decide)).trans h4, fun d => absurd d c, fun _ => ⟨(w 2 (by decide)).trans a1, (w 3 (by decide)).trans a2, zu_s⟩, fun d => absurd d c, cy_Ke h8 rfl (fun c hc => w2 c (by omega))⟩
/-- in a fault nothing is known of the rows -/
theorem cy_F {W' : cy_W} (h : cy_S z W f n g law s r) (c : r.1 ≠ 0) : cy_S z W' f n g law s r := ⟨h.1, h.2.1, h.2.2.1, h.2.2.2.1, h.2.2.2.2.1, h.2.2.2.2.2.1, fun d => absurd d c, h.2.2.2.2.2.2.2⟩
theorem cy_m {W' : cy_W} (h : cy_S z W f n g law s r) (m : ∀ o C, r.1 = 0 → W o C → W' o C) : cy_S z W' f n g law s r := ⟨h.1, h.2.1, h.2.2.1, h.2.2.2.1, h.2.2.2.2.1, h.2.2.2.2.2.1, fun d => m _ _ d (h.2.2.2.2.2.2.1 d), h.2.2.2.2.2.2.2⟩
/-- what is wanted, or a fault: fw_48 -/
theorem fy_ex {w : Int} {Q : lf_Z → Prop} (hw : w ≠ 1) (hb : cl_tp f n) (h : cy_S z W f n g law s r) (k : ∀ t : lf_Z, cy_S z W f n g law t (ds_bd r (ds_ex f n w)) → Q t) : fw_48 w Q s := by
  unfold fw_48
  intro _ _
  by_cases c : r.1 = 0
  · have e := cy_tok h c
    refine ⟨fun d => fy_fail (W' := W) (by decide) h (fun t ht => k t ?_), fun d => fy_adv hb h (fun t ht => k t ?_)⟩
    · rw [ds_bd0 c] at ht ⊢
      unfold ds_ex
      rw [if_neg (by rw [← e]; exact d)]; exact ht
    · rw [ds_bd0 c] at ht ⊢
      unfold ds_ex
      rw [if_pos (by rw [← e]; exact Classical.not_not.mp d)]; exact ht
  · have e := cy_bad h c
    refine ⟨fun d => fy_fail (W' := W) (by decide) h (fun t ht => k t ?_), fun d => absurd (by rw [e]; exact fun q => hw q.symm) d⟩
    rw [ds_bdF c] at ht ⊢
    exact ht
/-- an order a more, at v -/
def cy_O (a v : Int) (W : cy_W) : cy_W := fun o C => ∃ (D : Nat → Int → Int) (u : Nat), W o D ∧ o = some u ∧ u < 4 ∧ (D (7 * u) 1 < 300 → v = D (7 * u) 1 ∧ C (7 * u) 1 = D (7 * u) 1 + 1 ∧ C (7 * u + 1) = ds_u1 (D (7 * u + 1)) (D (7 * u) 1) a ∧ (∀ i : Int, i ≠ 1 → C (7 * u) i = D (7 * u) i) ∧ ∀ c : Nat, c ≠ 7 * u → c ≠ 7 * u + 1 → C c = D c)
theorem fy_45 {t0 : Nat} {a1 a2 : Int} {Q : Int → lf_Z → Prop} (ht : t0 < 4) (h : cy_S z W f n g law s r) (hu : s.2.2 2 = some t0) (k : ∀ (v : Int) (t : lf_Z), t.2 = s.2 → cy_S z (cy_O (a1 * 10000 + a2) v W) f n g law t r → Q v t) : fw_45 t0 a1 a2 Q s := by
  unfold fw_45
  have e1 : (lf_up s.1 (36 + 7 * t0) (s.1 (35 + 7 * t0) 1) (a1 * 10000 + a2)) (35 + 7 * t0) 1 = s.1 (35 + 7 * t0) 1 := lf_up_c (by omega)
  rw [e1, lf_up_s]
  intro _
  refine ⟨fun c _ => ?_, fun c => k _ _ rfl (cy_S_c h rfl rfl rfl (fun hr => ⟨fun c => s.1 (35 + c), t0, h.2.2.2.2.2.2.1 hr, hu, ht, fun q => absurd q c⟩) (fun hK => hK))⟩
  rw [show s.1 (35 + 7 * t0) 1 + 1 - 1 = s.1 (35 + 7 * t0) 1 by omega]
  refine k _ _ rfl (cy_S_c h ((zu_r (by omega)).trans (lf_up_row (by omega))) ((zu_r (by omega)).trans (lf_up_row (by omega))) ((zu_r (by omega)).trans (lf_up_row (by omega))) (fun hr => ?_) (fun hK => cy_Ku hK rfl hu (fun c hc => (zu_r (by omega)).trans (lf_up_row (by omega)))))
  refine ⟨fun c => s.1 (35 + c), t0, h.2.2.2.2.2.2.1 hr, hu, ht, fun _ => ⟨rfl, zu_s, ?_, fun i hi => (zu_i hi).trans (lf_up_c (by omega)), fun c c1 c2 => (zu_r (by omega)).trans (lf_up_row (by omega))⟩⟩
  show (lf_up (lf_up s.1 (36 + 7 * t0) (s.1 (35 + 7 * t0) 1) (a1 * 10000 + a2)) (35 + 7 * t0) 1 (s.1 (35 + 7 * t0) 1 + 1)) (35 + (7 * t0 + 1)) = ds_u1 (s.1 (35 + (7 * t0 + 1))) (s.1 (35 + 7 * t0) 1) (a1 * 10000 + a2)
  rw [show 35 + (7 * t0 + 1) = 36 + 7 * t0 by omega]
  exact (lf_up_row (by omega)).trans tp_row
/-- a leap's end is known -/
def cy_B (v : Int) (W : cy_W) : cy_W := fun o C => ∃ (D : Nat → Int → Int) (u : Nat), W o D ∧ o = some u ∧ u < 4 ∧ (0 ≤ v → v < D (7 * u) 1 → C (7 * u + 1) = ds_u1 (D (7 * u + 1)) v (lf_w (D (7 * u + 1) v + D (7 * u) 1)) ∧ ∀ c : Nat, c ≠ 7 * u + 1 → C c = D c)
theorem fy_53 {t0 : Nat} {a1 : Int} {Q : lf_Z → Prop} (ht : t0 < 4) (h : cy_S z W f n g law s r) (hu : s.2.2 2 = some t0) (k : ∀ (t : lf_Z), t.2 = s.2 → cy_S z (cy_B a1 W) f n g law t r → Q t) : fw_53 t0 a1 Q s := by
  unfold fw_53
  have same : ¬ (0 ≤ a1 ∧ a1 < s.1 (35 + 7 * t0) 1) → Q s := fun q => k s rfl (cy_S_c h rfl rfl rfl (fun hr => ⟨fun c => s.1 (35 + c), t0, h.2.2.2.2.2.2.1 hr, hu, ht, fun q1 q2 => absurd ⟨q1, q2⟩ q⟩) (fun hK => hK))
  intro _
  refine ⟨fun c => same (by omega), fun c _ => ⟨fun d => same (by omega), fun d _ => ?_⟩⟩
  refine k _ rfl (cy_S_c h (zu_r (by omega)) (zu_r (by omega)) (zu_r (by omega)) (fun hr => ?_) (fun hK => cy_Ku hK rfl hu (fun c hc => zu_r (by omega))))
  refine ⟨fun c => s.1 (35 + c), t0, h.2.2.2.2.2.2.1 hr, hu, ht, fun _ _ => ⟨?_, fun c c1 => zu_r (by omega)⟩⟩
  show (lf_up s.1 (36 + 7 * t0) a1 (lf_w (s.1 (36 + 7 * t0) a1 + s.1 (35 + 7 * t0) 1))) (35 + (7 * t0 + 1)) = ds_u1 (s.1 (35 + (7 * t0 + 1))) a1 (lf_w (s.1 (35 + (7 * t0 + 1)) a1 + s.1 (35 + 7 * t0) 1))
  rw [show 35 + (7 * t0 + 1) = 36 + 7 * t0 by omega]
  exact tp_row
/-- a number: fw_44 -/
theorem fy_num {lo hi : Int} {Q : Int → lf_Z → Prop} (hb : cl_tp f n) (h : cy_S z W f n g law s r) (k : ∀ (v : Int) (t : lf_Z), cy_S z W f n g law t (ds_bd r (ds_num f n lo hi)) → ((ds_bd r (ds_num f n lo hi)).1 = 0 → v = lx_V f n r.2) → Q v t) : fw_44 lo hi Q s := by
  unfold fw_44
  intro _
  by_cases c : r.1 = 0
  · have e := cy_tok h c
    rw [ds_bd0 c] at k
    refine ⟨fun d => ?_, fun d => fy_fail (W' := W) (by decide) h (fun t ht => ?_)⟩
    · have v := cy_val h c (Or.inl d)
      refine fl_15 ⟨fun z => ?_, fun z => fy_fail (W' := W) (by decide) h (fun t ht => ?_)⟩
      · rw [Bool.and_eq_true, decide_eq_true_eq, decide_eq_true_eq, v] at z
        have E : ds_num f n lo hi r.2 = (0, ds_ad f n r.2) := by unfold ds_num; rw [if_pos (by rw [← e]; exact d), if_pos z]
        rw [E] at k
        refine fy_adv hb h (fun t ht => ?_)
        rw [ds_bd0 c] at ht
        exact k _ t ht (fun _ => v)
      · rw [Bool.and_eq_false_iff, decide_eq_false_iff_not, decide_eq_false_iff_not, v] at z
        have E : ds_num f n lo hi r.2 = (2, r.2) := by unfold ds_num; rw [if_pos (by rw [← e]; exact d), if_neg (fun q => by omega)]
        rw [E] at k
        rw [ds_bd0 c] at ht
        exact k _ t ht (fun q => absurd q (show (2 : Int) ≠ 0 by decide))
    · have E : ds_num f n lo hi r.2 = (1, r.2) := by unfold ds_num; rw [if_neg (by rw [← e]; exact d)]
      rw [E] at k
      rw [ds_bd0 c] at ht
      exact k _ t ht (fun q => absurd q (show (1 : Int) ≠ 0 by decide))
  · have e := cy_bad h c
    rw [ds_bdF c] at k
    refine ⟨(fun d => by rw [e] at d; cases d), fun d => fy_fail (W' := W) (by decide) h (fun t ht => ?_)⟩
    rw [ds_bdF c] at ht
    exact k _ t ht (fun q => absurd q c)
/-- one deeper: fw_47 -/
theorem fy_47 {d : Int} {Q : Bool → lf_Z → Prop} (hb : cl_tp f n) (h : cy_S z W f n g law s r) (k1 : d < 8 → ∀ t : lf_Z, cy_S z W f n g law t (ds_bd r (fun b => (0, ds_ad f n b))) → Q true t) (k2 : ¬ d < 8 → ∀ t : lf_Z, cy_S z W f n g law t (ds_bd r (fun b => (3, b))) → Q false t) : fw_47 d Q s := by
  unfold fw_47
  intro _
  exact ⟨fun c => fy_adv hb h (k1 c), fun c => fy_fail (by decide) h (k2 c)⟩
theorem fy_en {W' : cy_W} {d : Int} {Q : lf_Z → Prop} {G : Int → Int × Int} {K : lf_Z → Prop} (hb : cl_tp f n) (h : cy_S z W f n g law s r) (c : r.1 = 0) (hK : ∀ t : lf_Z, cy_S z W f n g law t (0, ds_ad f n r.2) → d < 8 → (∀ u : lf_Z, cy_S z W' f n g law u (G (ds_ad f n r.2)) → Q u) → K t) (k : ∀ t : lf_Z, cy_S z W' f n g law t (ds_en f n d G r.2) → Q t) : fw_47 d (fun z t => (z = false → Q t) ∧ (z = true → K t)) s := by
  refine fy_47 hb h (fun hd t ht => ⟨(fun z => by cases z), fun _ => hK t ?_ hd (fun u hu => k u ?_)⟩) (fun hd t ht => ⟨fun _ => k t ?_, fun z => by cases z⟩)
  · rw [ds_bd0 c] at ht; exact ht
  · unfold ds_en; rw [if_pos hd]; exact hu
  · unfold ds_en
    rw [if_neg hd]
    rw [ds_bd0 c] at ht
    exact cy_F ht (show (3 : Int) ≠ 0 by decide)
/-- what a reading has written: from place b to b', in rows B before, C now -/
def cy_A (law n b b' d : Int) (g : Int → Int) (V : cc_V) (W : cy_W) : cy_W := fun o C => ∃ (B : Nat → Int → Int) (u : Nat), W o B ∧ o = some u ∧ u < 4 ∧
  (0 ≤ B (7 * u) 1 → B (7 * u) 1 ≤ b → b ≤ n → n ≤ 300 → (b ≤ b' ∧ b' ≤ n) ∧ (B (7 * u) 1 ≤ C (7 * u) 1 ∧ C (7 * u) 1 - B (7 * u) 1 ≤ b' - b) ∧ (∀ i : Int, i < B (7 * u) 1 → C (7 * u + 1) i = B (7 * u + 1) i)
    ∧ (∀ i : Int, i ≠ 1 → C (7 * u) i = B (7 * u) i) ∧ (∀ c : Nat, c ≠ 7 * u → c ≠ 7 * u + 1 → C c = B c) ∧ cc law (C (7 * u + 1)) (B (7 * u) 1) (C (7 * u) 1) d g V)
abbrev cy_D : Type := (Int → Int) → dv_D
def cy_gB (g : Int → Int) : Prop := ∀ x : Int, 0 ≤ x → x < 26 → g x = -1 ∨ (0 ≤ g x ∧ g x < 8)
def cy_G (z : lf_Z) (f : Int → Int) (n law : Int) (F : Int → (lf_Z → Prop) → lf_Z → Prop) (D : ds_D) (V : cy_D) : Prop := ∀ (W : cy_W) (d : Int) (g : Int → Int) (s : lf_Z) (r : Int × Int) (Q : lf_Z → Prop), (0 ≤ d ∧ cy_gB g) → cy_S z W f n g law s r → (∀ t : lf_Z, cy_S z (cy_A law n r.2 (D d g r.2).2 d g (fun N e => V N d g e r.2) W) f n g law t (ds_bd r (D d g)) → Q t) → F d Q s
end CY
