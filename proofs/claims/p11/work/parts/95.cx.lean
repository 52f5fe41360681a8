/-! the class's orders are done as the machine does them -/
section CX
variable {s t u : lf_Z} {R N L : Int → Int} {a b c p x lo hi : Int} {st : List Int}
def cw_f (s t : lf_Z) : Prop := (∀ c : Nat, c ≠ 63 → c ≠ 65 → c ≠ 66 → t.1 c = s.1 c) ∧ t.2 = s.2
theorem cw_fr : cw_f s s := ⟨fun _ _ _ _ => rfl, rfl⟩
theorem cw_ft (h : cw_f s t) (g : cw_f t u) : cw_f s u := ⟨fun c a b d => (g.1 c a b d).trans (h.1 c a b d), g.2.trans h.2⟩
/-- pile and lets -/
def cm_A (s : lf_Z) (st : List Int) (L : Int → Int) : Prop := s.1 63 6 = st.length ∧ cm_k (s.1 66) st ∧ s.1 65 = L
theorem fl_85 {v : Int} {Q : lf_Z → Prop} (h : cm_A s st L) (h3 : st.length < 300) (k : ∀ t : lf_Z, cw_f s t → cm_A t (v :: st) L → Q t) : fw_85 v Q s := by
  obtain ⟨h1, h2, h4⟩ := h
  unfold fw_85
  rw [h1]
  intro _
  refine ⟨fun c => absurd c (by omega), fun _ _ => k _ ⟨fun c c1 _ c3 => (zu_r c1).trans (lf_up_row c3), rfl⟩ ⟨?_, ?_, ?_⟩⟩
  · refine zu_s.trans ?_
    rw [List.length_cons]; omega
  · have e : ((lf_up (lf_up s.1 66 (st.length : Int) v) 63 6 ((st.length : Int) + 1), s.2.1, s.2.2) : lf_Z).1 66 = ds_u1 (s.1 66) (st.length : Int) v := (zu_r (by decide)).trans tp_row
    rw [e]
    exact ⟨if_pos rfl, cm_kU st (Int.le_refl _) h2⟩
  · exact (zu_r (by decide)).trans ((lf_up_row (by decide)).trans h4)
theorem fl_86 {v : Int} {Q : Int → lf_Z → Prop} (h : cm_A s (v :: st) L) (k : ∀ t : lf_Z, cw_f s t → cm_A t st L → Q v t) : fw_86 Q s := by
  obtain ⟨h1, h2, h4⟩ := h
  rw [List.length_cons] at h1
  unfold fw_86
  rw [h1]
  intro _
  refine ⟨fun _ _ => ?_, fun c => by omega⟩
  have e1 : ((st.length + 1 : Nat) : Int) - 1 = st.length := by omega
  rw [e1, h2.1]
  refine k _ ⟨fun c c1 _ _ => zu_r c1, rfl⟩ ⟨zu_s, ?_, ?_⟩
  · have e : ((lf_up s.1 63 6 (st.length : Int), s.2.1, s.2.2) : lf_Z).1 66 = s.1 66 := zu_r (by decide)
    rw [e]; exact h2.2
  · exact (zu_r (by decide)).trans h4
theorem fl_84b {w : Nat} {l v : Int} {k : Nat} {L' : Int → Int} {Q : Int → lf_Z → Prop} (hw : w < 4) (hp : 0 ≤ s.1 (37 + 7 * w) l) (he : s.1 (38 + 7 * w) l ≤ 300) (hk : k < 300)
    (go : cm_go (s.1 (36 + 7 * w)) (s.1 64) (s.1 (37 + 7 * w) l) (s.1 (38 + 7 * w) l) k (s.1 (37 + 7 * w) l, [], s.1 65) (s.1 (38 + 7 * w) l, [v], L')) (h : ∀ t : lf_Z, cw_f s t → Q v t) : fw_84b w l Q s := by
  unfold fw_84b
  intro _ _
  have e38 : (lf_up s.1 63 6 0) (38 + 7 * w) l = s.1 (38 + 7 * w) l := lf_up_c (by omega)
  have e37 : (lf_up s.1 63 6 0) (37 + 7 * w) l = s.1 (37 + 7 * w) l := lf_up_c (by omega)
  rw [e38, e37]
  generalize hR : s.1 (36 + 7 * w) = R at go
  generalize hN : s.1 64 = N at go
  generalize s.1 (37 + 7 * w) l = p at *
  generalize s.1 (38 + 7 * w) l = e at *
  have pe : p < e := by
    cases k with
    | zero => have : ((p, [], s.1 65) : cm_T) = (e, [v], L') := go
              have := congrArg (fun x => x.2.1) this
              cases this
    | succ k => exact go.1.1.2
  rw [show min e 300 = e by omega]
  refine ⟨fun x4 x5 t => ∃ (j : Nat) (st : List Int) (L : Int → Int), x5 + j = k ∧ 0 ≤ x5 ∧ cw_f s t ∧ cm_A t st L ∧ (st.length : Int) ≤ x5 ∧ cm_go R N p e j (x4, st, L) (e, [v], L'), ?_, ⟨k, [], s.1 65, by omega, Int.le_refl 0, ⟨fun c c1 _ _ => zu_r c1, rfl⟩, ⟨zu_s, trivial, zu_r (by decide)⟩, Int.le_refl 0, go⟩⟩
  intro x4 x5 t ⟨j, st, L, hj, x0, tf, tA, hl, tg⟩
  have tR : t.1 (36 + 7 * w) = R := (tf.1 _ (by omega) (by omega) (by omega)).trans hR
  have tN : t.1 64 = N := (tf.1 64 (by decide) (by decide) (by decide)).trans hN
  unfold fw_84b_p29
  intro _
  refine ⟨fun c => by omega, fun _ _ => ⟨fun c => ?_, fun c _ => ⟨fun c2 => ?_, fun c2 _ => ?_⟩⟩⟩
  · exfalso
    cases j with
    | zero => have := congrArg (fun x => x.1) (show ((x4, st, L) : cm_T) = (e, [v], L') from tg)
              have : x4 = e := this
              omega
    | succ j => have := tg.1.1.1
                have : p ≤ x4 := this
                omega
  · cases j with
    | zero =>
      have q := (show ((x4, st, L) : cm_T) = (e, [v], L') from tg)
      have q2 : st = [v] := congrArg (fun x => x.2.1) q
      subst q2
      unfold fw_84b_p311
      exact fl_86 tA (fun y yf _ => h y (cw_ft tf yf))
    | succ j => exfalso
                have := tg.1.1.2
                have : x4 < e := this
                omega
  · cases j with
    | zero => exfalso
              have := congrArg (fun x => x.1) (show ((x4, st, L) : cm_T) = (e, [v], L') from tg)
              have : x4 = e := this
              omega
    | succ j =>
      obtain ⟨ok, go'⟩ := tg
      rw [tR]
      unfold cm_or at ok
      unfold cm_st at go'
      dsimp only at ok go'
      have a0 : 0 ≤ (R x4).tmod 10000 ∧ (R x4).tmod 10000 < 10000 := dy_m ok.2.1 (by decide)
      obtain ⟨_, _, _, ok⟩ := ok
      generalize (R x4).tdiv 10000 = c at ok go' ⊢
      generalize (R x4).tmod 10000 = a at ok go' a0 ⊢
      have hl3 : st.length < 300 := by omega
      -- on
      have next : ∀ (q : Int) (st2 : List Int) (L2 : Int → Int) (y : lf_Z), cw_f s y → cm_A y st2 L2 → (st2.length : Int) ≤ x5 + 1 → cm_go R N p e j (q, st2, L2) (e, [v], L') → (fun (x4 x5 : Int) (t : lf_Z) => ∃ (j : Nat) (st : List Int) (L : Int → Int), x5 + j = k ∧ 0 ≤ x5 ∧ cw_f s t ∧ cm_A t st L ∧ (st.length : Int) ≤ x5 ∧ cm_go R N p e j (x4, st, L) (e, [v], L')) q (x5 + 1) y := fun q st2 L2 y yf yA yl yg => ⟨j, st2, L2, by omega, by omega, yf, yA, yl, yg⟩
      intro _ _
      refine ⟨fun hc => ?_, fun hc => ?_, fun hc _ => ?_, fun hc _ => ?_, fun hc => ?_, fun hc => ?_, fun hc => ?_, fun hc _ => ?_, fun hc => ?_⟩
      · rw [if_neg hc.1, if_neg hc.2.1, if_neg hc.2.2.1, if_neg hc.2.2.2.2.2.1] at go'
        obtain ⟨ht, v1, v2, st2, est, s1, s2⟩ : ((4 ≤ c ∧ c ≤ 13) ∨ c = 45 ∨ c = 46) ∧ ∃ v w st', st = v :: w :: st' ∧ cm_sm v ∧ cm_sm w := by
          rcases ok with q | q | q | q | q | q
          · exact absurd q hc.1
          · exact absurd q.1 hc.2.1
          · exact absurd q.1 hc.2.2.1
          · exact absurd q hc.2.2.2.2.2.1
          · exfalso
            rcases q.1 with r | r | r | r
            · exact hc.2.2.2.1 r
            · exact hc.2.2.2.2.1 r
            · exact hc.2.2.2.2.2.2.1 r.1
            · exact hc.2.2.2.2.2.2.2 r
          · exact q
        subst est
        dsimp only at go'
        rw [if_neg hc.2.2.2.1, if_neg hc.2.2.2.2.1, if_neg hc.2.2.2.2.2.2.1, if_neg hc.2.2.2.2.2.2.2] at go'
        rw [List.length_cons, List.length_cons] at hl
        refine fl_86 tA (fun y yf yA => fl_86 yA (fun z zf zA => fl_87 ht s2 s1 (fl_85 zA (by omega) (fun g gf gA => ?_))))
        unfold fw_84b_p305
        exact next _ _ _ g (cw_ft tf (cw_ft yf (cw_ft zf gf))) gA (by rw [List.length_cons]; omega) go'
      · rw [if_pos hc] at go'
        refine fl_85 tA hl3 (fun g gf gA => ?_)
        unfold fw_84b_p305
        exact next _ _ _ g (cw_ft tf gf) gA (by rw [List.length_cons]; omega) go'
      · rw [if_neg (by omega), if_pos hc] at go'
        have a8 : a < 8 := by
          rcases ok with q | q | q | q | q | q
          · omega
          · exact q.2
          · omega
          · omega
          · omega
          · omega
        refine ⟨fun d => by omega, fun _ _ => ?_⟩
        unfold fw_84b_p208
        rw [tA.2.2]
        refine fl_85 tA hl3 (fun g gf gA => ?_)
        unfold fw_84b_p305
        exact next _ _ _ g (cw_ft tf gf) gA (by rw [List.length_cons]; omega) go'
      · rw [if_neg (by omega), if_neg (by omega), if_pos hc] at go'
        have a8 : a < 11 := by
          rcases ok with q | q | q | q | q | q
          · omega
          · omega
          · exact q.2
          · omega
          · omega
          · omega
        refine ⟨fun d => by omega, fun _ _ => ?_⟩
        unfold fw_84b_p183
        rw [tN]
        refine fl_85 tA hl3 (fun g gf gA => ?_)
        unfold fw_84b_p305
        exact next _ _ _ g (cw_ft tf gf) gA (by rw [List.length_cons]; omega) go'
      · obtain ⟨v1, st2, est, s1⟩ : ∃ v st', st = v :: st' ∧ cm_sm v := by
          rcases ok with q | q | q | q | q | q
          · omega
          · omega
          · omega
          · omega
          · exact q.2
          · omega
        subst est
        rw [if_neg (by omega), if_neg (by omega), if_neg (by omega), if_neg (by omega)] at go'
        dsimp only at go'
        rw [if_pos hc] at go'
        rw [List.length_cons] at hl
        refine fl_86 tA (fun y yf yA => ?_)
        unfold cm_sm at s1
        rw [tr_w (a := -v1) (by omega)]
        refine fl_85 yA (by omega) (fun g gf gA => ?_)
        unfold fw_84b_p305
        exact next _ _ _ g (cw_ft tf (cw_ft yf gf)) gA (by rw [List.length_cons]; omega) go'
      · obtain ⟨v1, st2, est, s1⟩ : ∃ v st', st = v :: st' ∧ cm_sm v := by
          rcases ok with q | q | q | q | q | q
          · omega
          · omega
          · omega
          · omega
          · exact q.2
          · omega
        subst est
        rw [if_neg (by omega), if_neg (by omega), if_neg (by omega), if_neg (by omega)] at go'
        dsimp only at go'
        rw [if_neg (by omega), if_pos hc] at go'
        rw [List.length_cons] at hl
        refine fl_86 tA (fun y yf yA => ?_)
        intro _
        refine ⟨fun d => ?_, fun d => ?_⟩
        · rw [if_pos d] at go'
          unfold fw_84b_p247 fw_84b_p305
          exact next _ _ _ y (cw_ft tf yf) yA (by omega) go'
        · rw [if_neg d] at go'
          unfold fw_84b_p247 fw_84b_p305
          exact next _ _ _ y (cw_ft tf yf) yA (by omega) go'
      · rw [if_neg (by omega), if_neg (by omega), if_neg (by omega), if_pos hc] at go'
        unfold fw_84b_p305
        exact next _ _ _ t tf tA (by omega) go'
      · obtain ⟨a8, v1, st2, est, s1⟩ : a < 8 ∧ ∃ v st', st = v :: st' ∧ cm_sm v := by
          rcases ok with q | q | q | q | q | q
          · omega
          · omega
          · omega
          · omega
          · refine ⟨?_, q.2⟩
            rcases q.1 with r | r | r | r
            · omega
            · omega
            · exact r.2
            · omega
          · omega
        subst est
        rw [if_neg (by omega), if_neg (by omega), if_neg (by omega), if_neg (by omega)] at go'
        dsimp only at go'
        rw [if_neg (by omega), if_neg (by omega), if_pos hc] at go'
        rw [List.length_cons] at hl
        refine fl_86 tA (fun y yf yA => ?_)
        rw [show min a 7 = a by omega]
        intro _
        unfold fw_84b_p305
        refine next _ _ _ _ (cw_ft tf (cw_ft yf ⟨fun c _ c2 _ => zu_r c2, rfl⟩)) ⟨(zu_c (by decide)).trans yA.1, ?_, ?_⟩ (by omega) go'
        · have e : ((lf_up y.1 65 a v1, y.2.1, y.2.2) : lf_Z).1 66 = y.1 66 := zu_r (by decide)
          rw [e]; exact yA.2.1
        · have e : ((lf_up y.1 65 a v1, y.2.1, y.2.2) : lf_Z).1 65 = ds_u1 (y.1 65) a v1 := (tp_row : lf_up y.1 65 a v1 65 = ds_u1 (y.1 65) a v1)
          rw [e, yA.2.2]
      · obtain ⟨v1, st2, est, s1⟩ : ∃ v st', st = v :: st' ∧ cm_sm v := by
          rcases ok with q | q | q | q | q | q
          · omega
          · omega
          · omega
          · omega
          · exact q.2
          · omega
        subst est
        rw [if_neg (by omega), if_neg (by omega), if_neg (by omega), if_neg (by omega)] at go'
        dsimp only at go'
        rw [if_neg (by omega), if_neg (by omega), if_neg (by omega), if_pos hc] at go'
        rw [List.length_cons] at hl
        refine fl_86 tA (fun y yf yA => ?_)
        unfold cm_sm at s1
        rw [tr_w (a := 1 - v1) (by omega)]
        refine fl_85 yA (by omega) (fun g gf gA => ?_)
        unfold fw_84b_p305
        exact next _ _ _ g (cw_ft tf (cw_ft yf gf)) gA (by rw [List.length_cons]; omega) go'
end CX
