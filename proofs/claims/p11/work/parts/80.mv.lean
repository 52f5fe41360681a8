/-! a move: the class -/
section MV
variable {J : Nat → Int → Int} {s t u : lf_Z} {f g : Int → Int} {X : mn_X} {I : Nat → Int → Int} {a b p x : Int}
/-- nothing but the stand and the laws' scratch -/
def mv_f (s t : lf_Z) : Prop := (∀ c : Nat, c < 15 ∨ (21 < c ∧ (c < 63 ∨ 66 < c)) → t.1 c = s.1 c) ∧ (∀ i : Int, i ≠ 6 → i ≠ 7 → i ≠ 8 → t.1 15 i = s.1 15 i) ∧ t.2 = s.2
theorem mv_fr : mv_f s s := ⟨fun _ _ => rfl, fun _ _ _ _ => rfl, rfl⟩
theorem mv_ft (h : mv_f s t) (k : mv_f t u) : mv_f s u := ⟨fun c hc => (k.1 c hc).trans (h.1 c hc), fun i a b c => (k.2.1 i a b c).trans (h.2.1 i a b c), k.2.2.trans h.2.2⟩
theorem mv_k (h : tk_f s t) : mv_f s t := ⟨fun c hc => h.1 c (by omega) (by omega) (by omega) (by omega), fun i _ _ _ => by rw [h.1 15 (by decide) (by decide) (by decide) (by decide)], h.2⟩
theorem mv_g (h : rc_g s t) : mv_f s t := ⟨fun c hc => h.1 c (by omega), h.2.1, h.2.2⟩
theorem gc_Jm (h : gc_J J s) (g : mv_f s t) : gc_J J t := fun c hc => (g.1 c (Or.inl (by omega))).trans (h c hc)
/-- X stays below 30203 -/
theorem mn_anB (h : 0 ≤ x) : 0 ≤ mn_an x ∧ mn_an x < 30203 := by
  unfold mn_an
  rw [Int.tmod_eq_emod_of_nonneg (by omega)]
  omega
theorem rc_15 {v : Int} (hS : rc_S s.1 f) : rc_S (lf_up s.1 15 8 v) (ds_u1 f 38 v) := by
  obtain ⟨s1, s2, s3, s4, s5, s6⟩ := hS
  have e : ∀ j : Int, j ≠ 38 → ds_u1 f 38 v j = f j := fun j hj => if_neg hj
  refine ⟨fun b b0 b1 => ?_, fun q q0 q1 => ?_, fun q q0 q1 => ?_, ?_, ?_, ?_⟩
  · rw [lf_up_c (by decide), lf_up_c (by decide), lf_up_c (by decide), e _ (by omega), e _ (by omega), e _ (by omega)]; exact s1 b b0 b1
  · rw [lf_up_c (by decide), lf_up_c (by decide), e _ (by omega), e _ (by omega)]; exact s2 q q0 q1
  · rw [lf_up_c (by decide), e _ (by omega)]; exact s3 q q0 q1
  · rw [lf_up_i (by decide), e _ (by decide)]; exact s4
  · rw [lf_up_i (by decide), e _ (by decide)]; exact s5
  · rw [lf_up_s]; exact (if_pos rfl).symm
theorem fl_94 {Q : lf_Z → Prop} (hS : rc_S s.1 f) (hx : 0 ≤ f 38 ∧ f 38 < 30203) (k : ∀ t : lf_Z, mv_f s t → rc_S t.1 (ds_u1 f 38 (mn_an (f 38))) → Q t) : fw_94 Q s := by
  unfold fw_94
  rw [hS.2.2.2.2.2, tr_w (a := f 38 * 239) (by omega), tr_w (by omega)]
  exact k _ (mv_g (rc_g15 rc_gr (by omega))) (rc_15 hS)
/-- isTaken -/
theorem fl_92 {Q : Bool → lf_Z → Prop} (hS : rc_S s.1 f) (hx : 0 ≤ f 38 ∧ f 38 < 30203) (ha : 0 ≤ a ∧ a ≤ 10)
    (k0 : a = 0 → Q false s) (k1 : 10 ≤ a → Q true s) (k2 : a ≠ 0 → ¬ 10 ≤ a → ∀ t : lf_Z, mv_f s t → rc_S t.1 (ds_u1 f 38 (mn_an (f 38))) → Q (decide ((f 38).tmod 10 < a)) t) : fw_92 a Q s := by
  unfold fw_92
  intro _
  refine ⟨fun c => ?_, fun c => ⟨fun d => ?_, fun d => ?_⟩⟩
  · unfold fw_92_p10
    intro _
    exact ⟨fun _ => k0 c, fun d => absurd (Classical.not_not.mp d) (by omega)⟩
  · unfold fw_93
    rw [hS.2.2.2.2.2]
    intro _
    refine fl_94 hS hx (fun t tf tS => ?_)
    intro _
    have k := k2 c (by omega) t tf tS
    refine ⟨fun e => ?_, fun e => ?_⟩
    · rw [decide_eq_false (by omega)] at k; exact k
    · rw [decide_eq_true (by omega)] at k; exact k
  · unfold fw_92_p10
    intro _
    exact ⟨fun e => absurd (Classical.not_not.mp d) e, fun _ => k1 (by omega)⟩
theorem fl_90 {Q : Bool → lf_Z → Prop} (a0 : 0 ≤ a) (a1 : a < 31) (h : Q (!(bt_t (s.1 15 6) a)) s) : fw_90 a Q s := by
  unfold fw_90
  rw [bt_T a0 a1]
  cases e : bt_t (s.1 15 6) a with
  | true =>
    rw [e] at h
    exact ⟨fun _ => h, fun q => absurd (show (if true = true then (1 : Int) else 0) ≠ 0 by decide) q⟩
  | false =>
    rw [e] at h
    exact ⟨fun q => absurd rfl q, fun _ => h⟩
theorem mn_ngt {size s0 came w : Int} : mn_ng J f size s0 w (if mn_ac J w s0 = came then 1 else 0) 0 0 = mn_nt J f size s0 came w := by
  funext i
  unfold mn_ng mn_nt
  rw [Int.add_zero, Int.zero_add]
/-- no way at it from here on -/
theorem mn_mvE {s0 : Int} : ∀ (k w : Nat) (g : Int → Int), (∀ v : Nat, w ≤ v → v < w + k → mn_at J s0 v = false) → mn_mv J X b s0 k w g = g := by
  intro k
  induction k with
  | zero => intro w g _; rfl
  | succ k ih =>
    intro w g h
    have e : mn_tk J X g (g (3 * b)) s0 (g (3 * b + 2)) w = 0 := if_pos (Or.inl (h w (Nat.le_refl w) (by omega)))
    show (if mn_tk J X g (g (3 * b)) s0 (g (3 * b + 2)) w = 0 then mn_mv J X b s0 k (w + 1) g else _) = g
    rw [if_pos e]
    exact ih (w + 1) g (fun v h1 h2 => h v (by omega) (by omega))
/-- on to the next way at it -/
theorem mn_mvK {s0 : Int} : ∀ (n k w : Nat) (g : Int → Int), (∀ v : Nat, w ≤ v → v < w + n → mn_at J s0 v = false) → mn_mv J X b s0 (n + k) w g = mn_mv J X b s0 k (w + n) g := by
  intro n
  induction n with
  | zero => intro k w g _; rw [Nat.zero_add, Nat.add_zero]
  | succ n ih =>
    intro k w g h
    have e : mn_tk J X g (g (3 * b)) s0 (g (3 * b + 2)) w = 0 := if_pos (Or.inl (h w (Nat.le_refl w) (by omega)))
    rw [show n + 1 + k = (n + k) + 1 by omega]
    show (if mn_tk J X g (g (3 * b)) s0 (g (3 * b + 2)) w = 0 then mn_mv J X b s0 (n + k) (w + 1) g else _) = _
    rw [if_pos e, ih k (w + 1) g (fun v h1 h2 => h v (by omega) (by omega)), show w + 1 + n = w + (n + 1) by omega]
/-- a move taken -/
theorem rc_take {s0 v : Int} (hS : rc_S s.1 f) (b0 : 0 ≤ b) (b1 : b < 4) : rc_S (lf_up (lf_up s.1 18 b s0) 17 b v) (ds_u1 (ds_u1 f (3 * b + 1) v) (3 * b + 2) s0) := by
  obtain ⟨s1, s2, s3, s4, s5, s6⟩ := hS
  have e : ∀ j : Int, j ≠ 3 * b + 1 → j ≠ 3 * b + 2 → ds_u1 (ds_u1 f (3 * b + 1) v) (3 * b + 2) s0 j = f j := fun j h1 h2 => (if_neg h2).trans (if_neg h1)
  have c : ∀ (q : Nat) (j : Int), q ≠ 17 → q ≠ 18 → (lf_up (lf_up s.1 18 b s0) 17 b v) q j = s.1 q j := fun q j h1 h2 => (lf_up_c h1).trans (lf_up_c h2)
  refine ⟨fun q q0 q1 => ?_, fun q q0 q1 => ?_, fun q q0 q1 => ?_, ?_, ?_, ?_⟩
  · by_cases y : q = b
    · subst y
      refine ⟨?_, ?_, ?_⟩
      · rw [c 16 _ (by decide) (by decide), e _ (by omega) (by omega)]; exact (s1 q q0 q1).1
      · rw [lf_up_s]; exact ((if_neg (by omega)).trans (if_pos rfl)).symm
      · rw [lf_up_c (by decide), lf_up_s]; exact (if_pos rfl).symm
    · rw [c 16 _ (by decide) (by decide), lf_up_i y, lf_up_c (by decide), lf_up_c (by decide), lf_up_i y, e _ (by omega) (by omega), e _ (by omega) (by omega), e _ (by omega) (by omega)]
      exact s1 q q0 q1
  · rw [c 19 _ (by decide) (by decide), c 20 _ (by decide) (by decide), e _ (by omega) (by omega), e _ (by omega) (by omega)]; exact s2 q q0 q1
  · rw [c 21 _ (by decide) (by decide), e _ (by omega) (by omega)]; exact s3 q q0 q1
  · rw [c 15 _ (by decide) (by decide), e _ (by omega) (by omega)]; exact s4
  · rw [c 15 _ (by decide) (by decide), e _ (by omega) (by omega)]; exact s5
  · rw [c 15 _ (by decide) (by decide), e _ (by omega) (by omega)]; exact s6
theorem dm_cnE {P : Nat → Bool} {w n : Nat} (h : ∀ v : Nat, w ≤ v → v < n → P v = false) (hn : w ≤ n) : dm_cn P n = dm_cn P w := by
  induction n with
  | zero => have : w = 0 := by omega
            subst this; rfl
  | succ n ih =>
    by_cases e : w = n + 1
    · rw [e]
    · show dm_cn P n + (if P n = true then 1 else 0) = _
      rw [h n (by omega) (by omega), if_neg (by decide), ih (fun v h1 h2 => h v h1 (by omega)) (by omega)]; omega
/-- moveOn -/
theorem fl_88 {Q : lf_Z → Prop} (hJ : gc_J J s) (hW : mn_W J) (hB : mn_B J) (hV : mn_V J) (hS : rc_S s.1 f) (hX : xc_X X I s.2.2) (hXB : ∀ N, 0 ≤ X.2 N ∧ X.2 N ≤ 10) (hI : ∀ c : Nat, 35 ≤ c → c < 63 → s.1 c = I c) (b0 : 0 ≤ b) (b1 : b < 4) (hz : 0 ≤ f (3 * b) ∧ f (3 * b) ≤ 24) (hp : 0 ≤ f (3 * b + 1) ∧ f (3 * b + 1) < J 1 0) (hx : 0 ≤ f 38 ∧ f 38 < 30203)
    (k : ∀ t : lf_Z, mv_f s t → rc_S t.1 (mn_m1 J X b f) → Q t) : fw_88 b Q s := by
  have hW' := hW
  obtain ⟨w0, w1, w2, w4, w5, _⟩ := hW
  unfold fw_88
  intro _
  rw [(hS.1 b b0 b1).2.1]
  unfold mn_m1 at k
  generalize hs : f (3 * b + 1) = s0 at *
  obtain ⟨c1, c2, c3⟩ := w5 s0 hp.1 (by omega)
  refine ⟨fun i u => ∃ (w : Nat) (g : Int → Int), mv_f s u ∧ rc_S u.1 g ∧ (w : Int) ≤ J 1 1 ∧ i = dm_cn (mn_at J s0) w ∧ (0 ≤ g 38 ∧ g 38 < 30203) ∧ (g (3 * b + 1) = s0 ∧ g (3 * b) = f (3 * b)) ∧ mn_mv J X b s0 ((J 1 1).toNat - w) w g = mn_mv J X b s0 (J 1 1).toNat 0 f, ?_, ⟨0, f, mv_fr, hS, w1.1, rfl, hx, ⟨hs, rfl⟩, rfl⟩⟩
  intro i u ⟨w, g, uf, uS, wn, ei, gx, ⟨gs, gz⟩, ge⟩
  have uJ := gc_Jm hJ uf
  have e1 : u.1 1 = J 1 := uJ 1 (by omega)
  unfold fw_88_p12
  refine fl_76 ?_
  rw [e1, uJ 12 (by omega), if_pos hp]
  intro _ _
  refine ⟨fun c => ?_, fun c => ?_⟩
  · have none' : ∀ v : Nat, w ≤ v → v < w + ((J 1 1).toNat - w) → mn_at J s0 v = false := fun v v1 v2 => by
      cases hv : mn_at J s0 v with
      | false => rfl
      | true =>
        have a1 := dm_cnG (P := mn_at J s0) (w := v) (n := (J 1 1).toNat) (by omega) hv
        by_cases e : w = v
        · subst e; omega
        · have : dm_cn (mn_at J s0) w ≤ dm_cn (mn_at J s0) v := by
            have mono : ∀ n : Nat, w ≤ n → dm_cn (mn_at J s0) w ≤ dm_cn (mn_at J s0) n := by
              intro n
              induction n with
              | zero => intro h; have : w = 0 := by omega
                        subst this; exact Nat.le_refl _
              | succ n ih =>
                intro h
                by_cases e : w = n + 1
                · rw [e]; exact Nat.le_refl _
                · have := ih (by omega)
                  show _ ≤ dm_cn (mn_at J s0) n + (if mn_at J s0 n = true then 1 else 0)
                  omega
            exact mono v v1
          omega
    rw [mn_mvE _ _ _ none'] at ge
    rw [ge] at uS
    exact k u uf uS
  · obtain ⟨v, v1, v2, v3⟩ := dm_cnS (P := mn_at J s0) (J 1 1).toNat i.toNat (by omega)
    have wv : w ≤ v := by
      by_cases h : w ≤ v
      · exact h
      · have := dm_cnG (P := mn_at J s0) (w := v) (n := w) (by omega) v2
        omega
    have skip : ∀ y : Nat, w ≤ y → y < w + (v - w) → mn_at J s0 y = false := fun y y1 y2 => by
      cases hy : mn_at J s0 y with
      | false => rfl
      | true =>
        have a1 := dm_cnG (P := mn_at J s0) (w := y) (n := v) (by omega) hy
        have : dm_cn (mn_at J s0) w ≤ dm_cn (mn_at J s0) y := by
          have mono : ∀ n : Nat, w ≤ n → dm_cn (mn_at J s0) w ≤ dm_cn (mn_at J s0) n := by
            intro n
            induction n with
            | zero => intro h; have : w = 0 := by omega
                      subst this; exact Nat.le_refl _
            | succ n ih =>
              intro h
              by_cases e : w = n + 1
              · rw [e]; exact Nat.le_refl _
              · have := ih (by omega)
                show _ ≤ dm_cn (mn_at J s0) n + (if mn_at J s0 n = true then 1 else 0)
                omega
          exact mono y y1
        omega
    have ge2 : mn_mv J X b s0 ((J 1 1).toNat - v - 1 + 1) v g = mn_mv J X b s0 (J 1 1).toNat 0 f := by
      rw [← ge, show (J 1 1).toNat - w = (v - w) + ((J 1 1).toNat - v - 1 + 1) by omega, mn_mvK _ _ _ _ skip, show w + (v - w) = v by omega]
    have ge3 : (if mn_tk J X g (g (3 * b)) s0 (g (3 * b + 2)) v = 0 then mn_mv J X b s0 ((J 1 1).toNat - v - 1) (v + 1) g
        else if 10 ≤ mn_tk J X g (g (3 * b)) s0 (g (3 * b + 2)) v then ds_u1 (ds_u1 g (3 * b + 1) (mn_ac J v s0)) (3 * b + 2) s0
        else if (g 38).tmod 10 < mn_tk J X g (g (3 * b)) s0 (g (3 * b + 2)) v then ds_u1 (ds_u1 (ds_u1 g 38 (mn_an (g 38))) (3 * b + 1) (mn_ac J v s0)) (3 * b + 2) s0
        else mn_mv J X b s0 ((J 1 1).toNat - v - 1) (v + 1) (ds_u1 g 38 (mn_an (g 38)))) = mn_mv J X b s0 (J 1 1).toNat 0 f := ge2
    have cv : dm_cn (mn_at J s0) (v + 1) = dm_cn (mn_at J s0) v + 1 := by
      show dm_cn (mn_at J s0) v + (if mn_at J s0 v = true then 1 else 0) = _
      rw [if_pos v2]
    have gw := c3 v (by omega) v2
    rw [v3, show ((i.toNat : Nat) : Int) = i by omega] at gw
    have B := mn_acB hW' (show (v : Int) < J 1 1 by omega) v2
    refine fl_77 (by rw [e1]; exact hp) (by omega) (by rw [uJ 12 (by omega)]; omega) (fl_78 ?_)
    rw [uJ 11 (by omega), gw, e1, if_pos ⟨by omega, by omega⟩, mn_acJ uJ]
    intro _
    -- on, nothing drawn
    have on0 : mn_tk J X g (g (3 * b)) s0 (g (3 * b + 2)) v = 0 → ∀ y : lf_Z, mv_f s y → rc_S y.1 g → (fun (i : Int) (u : lf_Z) => ∃ (w : Nat) (g : Int → Int), mv_f s u ∧ rc_S u.1 g ∧ (w : Int) ≤ J 1 1 ∧ i = dm_cn (mn_at J s0) w ∧ (0 ≤ g 38 ∧ g 38 < 30203) ∧ (g (3 * b + 1) = s0 ∧ g (3 * b) = f (3 * b)) ∧ mn_mv J X b s0 ((J 1 1).toNat - w) w g = mn_mv J X b s0 (J 1 1).toNat 0 f) (i + 1) y := by
      intro h y yf yS
      rw [if_pos h] at ge3
      exact ⟨v + 1, g, yf, yS, by omega, by rw [cv]; omega, gx, ⟨gs, gz⟩, by rw [show (J 1 1).toNat - (v + 1) = (J 1 1).toNat - v - 1 by omega]; exact ge3⟩
    refine ⟨fun q => absurd q (by omega), fun _ => fl_89 ⟨fun z => ?_, fun z => fl_90 (by omega) (by omega) ⟨fun z2 _ _ => ?_, fun z2 => ?_⟩⟩⟩
    · unfold fw_88_p153
      refine on0 (if_pos (Or.inr (Or.inl ?_))) u uf uS
      rw [e1, uJ 6 (by omega), decide_eq_true (show (0 : Int) ≤ v by omega), decide_eq_true (show (v : Int) < J 1 1 by omega)] at z
      exact of_decide_eq_false z
    · rw [Bool.and_eq_true, decide_eq_true_eq, uJ 6 (by omega)] at z
      have sh := uS.2.2.2.1
      rw [sh] at z2
      have z2 : bt_t (g 36) (v : Int) = false := by cases h : bt_t (g 36) (v : Int) with
        | false => rfl
        | true => rw [h] at z2; cases z2
      have tkE : mn_tk J X g (g (3 * b)) s0 (g (3 * b + 2)) v = X.2 (mn_nt J g (g (3 * b)) s0 (g (3 * b + 2)) v) := by
        unfold mn_tk
        rw [if_neg (fun q => ?_)]
        rcases q with q | q | q
        · rw [v2] at q; cases q
        · exact q z.2
        · rw [z2] at q; cases q
      obtain ⟨d1, d2, d3⟩ := uS.1 b b0 b1
      have p99 : ∀ back : Int, back = (if mn_ac J v s0 = g (3 * b + 2) then 1 else 0) → fw_88_p99 (fun (i : Int) (u : lf_Z) => ∃ (w : Nat) (g : Int → Int), mv_f s u ∧ rc_S u.1 g ∧ (w : Int) ≤ J 1 1 ∧ i = dm_cn (mn_at J s0) w ∧ (0 ≤ g 38 ∧ g 38 < 30203) ∧ (g (3 * b + 1) = s0 ∧ g (3 * b) = f (3 * b)) ∧ mn_mv J X b s0 ((J 1 1).toNat - w) w g = mn_mv J X b s0 (J 1 1).toNat 0 f) Q b s0 i v (mn_ac J v s0) back u := by
        intro back hb
        unfold fw_88_p99
        intro _
        rw [d1]
        have uX : xc_X X I u.2.2 := by rw [uf.2.2]; exact hX
        refine fl_91 uJ hW' hB hV uS uX (fun c x y => (uf.1 c (by omega)).trans (hI c x y)) hp (by omega) (by omega) (by decide) (ng_S hW' hB hV hp (by omega) (by omega) (by unfold cm_sm; omega) (by unfold cm_sm; omega) (by decide) (by decide)) B.1 (fun v' y yf hv => ?_)
        rw [hb, mn_ngt, ← tkE] at hv
        have yS := rc_Sk uS yf
        have yF := mv_ft uf (mv_k yf)
        have bX : 0 ≤ v' ∧ v' ≤ 10 := by rw [hv, tkE]; exact hXB _
        refine fl_92 yS gx bX (fun h => ?_) (fun h => ?_) (fun h1 h2 y2 y2f y2S => ?_)
        · unfold fw_88_p153
          exact ⟨fun _ => on0 (by omega) y yF yS, fun q => (by cases q)⟩
        · refine ⟨fun q => (by cases q), fun _ => ?_⟩
          rw [if_neg (by omega), if_pos (by omega)] at ge3
          refine k _ (mv_ft yF (mv_g (rc_gu (rc_gu rc_gr (by omega)) (by omega)))) ?_
          rw [← ge3]
          exact rc_take yS b0 b1
        · have y2F := mv_ft yF y2f
          refine ⟨fun q => ?_, fun q => ?_⟩
          · have q := of_decide_eq_false q
            unfold fw_88_p153
            rw [if_neg (by omega), if_neg (by omega), if_neg (by omega)] at ge3
            have aB := mn_anB (x := g 38) gx.1
            refine ⟨v + 1, _, y2F, y2S, by omega, by rw [cv]; omega, ?_, ?_, by rw [show (J 1 1).toNat - (v + 1) = (J 1 1).toNat - v - 1 by omega]; exact ge3⟩
            · rw [show ds_u1 g 38 (mn_an (g 38)) 38 = mn_an (g 38) from if_pos rfl]; exact aB
            · exact ⟨(show ds_u1 g 38 (mn_an (g 38)) (3 * b + 1) = g (3 * b + 1) from if_neg (by omega)).trans gs, (show ds_u1 g 38 (mn_an (g 38)) (3 * b) = g (3 * b) from if_neg (by omega)).trans gz⟩
          · have q := of_decide_eq_true q
            rw [if_neg (by omega), if_neg (by omega), if_pos (by omega)] at ge3
            refine k _ (mv_ft y2F (mv_g (rc_gu (rc_gu rc_gr (by omega)) (by omega)))) ?_
            rw [← ge3]
            exact rc_take y2S b0 b1
      rw [d3]
      exact ⟨fun q => p99 0 (by rw [if_neg (fun w => q w.symm)]), fun q => p99 1 (by rw [if_pos (Classical.not_not.mp q).symm])⟩
    · unfold fw_88_p153
      refine on0 (if_pos (Or.inr (Or.inr ?_))) u uf uS
      have sh := uS.2.2.2.1
      rw [sh] at z2
      cases h : bt_t (g 36) (v : Int) with
      | true => rfl
      | false => rw [h] at z2; cases z2
end MV
