/-! one, let: with what is written -/
section D4
variable {f g : Int → Int} {n law : Int} {s t u z : lf_Z} {r : Int × Int} {W : cy_W} {b d w : Int}
/-- let is read one deeper, and keeps what lies below that -/
def cy_GL (z : lf_Z) (f : Int → Int) (n law : Int) (F : Int → (lf_Z → Prop) → lf_Z → Prop) (D : ds_D) (V : cy_D) : Prop := ∀ (W : cy_W) (d : Int) (g : Int → Int) (s : lf_Z) (r : Int × Int) (Q : lf_Z → Prop), (0 ≤ d ∧ cy_gB g) → d < 8 → cy_S z W f n g law s r → (∀ t : lf_Z, cy_S z (cy_A law n r.2 (D (d + 1) g r.2).2 d g (fun N e => V N (d + 1) g e r.2) W) f n g law t (ds_bd r (D (d + 1) g)) → Q t) → F (d + 1) Q s
theorem fy_43 {R41 R43 R49 R54 : Int → (lf_Z → Prop) → lf_Z → Prop} {S O I L : ds_D} {VS VO VI VL : cy_D} (hb : cl_tp f n) (hS : cy_G z f n law R41 S VS) (hO : cy_G z f n law R43 O VO) (hI : cy_G z f n law R49 I VI) (hL : cy_GL z f n law R54 L VL) : cy_G z f n law (fw_43 R41 R43 R49 R54) (ds_one f n law S O I L) (fun N => dv_one f n N (VS N) (VO N) (VI N) (VL N)) := by
  intro W d g s r Q hg h k
  have hg1 : 0 ≤ d + 1 ∧ cy_gB g := ⟨by have := hg.1; omega, hg.2⟩
  unfold fw_43
  intro _
  by_cases c : r.1 = 0
  · have e := cy_tok h c
    rw [ds_bd0 c] at k
    rw [e]
    unfold ds_one at k
    refine ⟨fun q => ?_, fun q => ?_, fun q => ?_, fun q => ?_, fun q => ?_, fun q => ?_, fun q => ?_⟩
    · have EV : (fun N e => dv_one f n N (VS N) (VO N) (VI N) (VL N) d g e r.2) = fun N _ => N (la_nm (lx_T f n r.2)) := funext fun N => funext fun e => by unfold dv_one; rw [if_neg q.1, if_neg q.2.1, if_neg q.2.2.1, if_neg q.2.2.2.1, if_neg q.2.2.2.2.1, if_neg q.2.2.2.2.2]
      rw [EV, if_neg q.1, if_neg q.2.1, if_neg q.2.2.1, if_neg q.2.2.2.1, if_neg q.2.2.2.2.1, if_neg q.2.2.2.2.2] at k
      refine fy_name (d := d) hb h (fun t ht => k t ?_)
      rw [ds_bd0 c] at ht
      by_cases z : (ds_name f n law r.2).1 = 0
      · have : (ds_name f n law r.2).2 = ds_ad f n r.2 := by
          have e := lm_name (f := f) (n := n) (law := law) (b := r.2)
          rw [e]; exact if_pos z
        rw [this]; exact ht
      · exact cy_F ht z
    · have v := lx_V2 q
      have EV : (fun N e => dv_one f n N (VS N) (VO N) (VI N) (VL N) d g e r.2) = fun _ _ => lx_V f n r.2 := funext fun N => funext fun e => if_pos q
      rw [EV, if_pos q] at k
      refine ⟨fun _ => fy_num hb h (fun _ _ _ _ => trivial), fun t0 hu h4 => fy_num hb h (fun w u hu3 hw => ?_)⟩
      rw [ds_bd0 c] at hu3 hw
      have hu9 : u.2.2 2 = some t0 := by rw [cy_P hu3, ← cy_P h]; exact hu
      by_cases z : lx_V f n r.2 ≤ 9999
      · have E : ds_num f n 0 9999 r.2 = (0, ds_ad f n r.2) := by unfold ds_num; rw [if_pos q, if_pos ⟨v, z⟩]
        rw [E] at hu3 hw
        rw [if_pos z] at k
        have hw := hw rfl
        refine fy_45 h4 hu3 hu9 (fun w2 y _ hy => k y (cy_m hy (fun o C _ hC => ?_)))
        rw [hw] at hC
        exact cy_A1 (by rw [q]; decide) (by decide) ⟨v, by omega⟩ (fun N M e L _ _ => ⟨⟨by omega, by omega⟩, Or.inl ⟨rfl, rfl⟩⟩) hC
      · have E : ds_num f n 0 9999 r.2 = (2, r.2) := by unfold ds_num; rw [if_pos q, if_neg (fun y => z y.2)]
        rw [E] at hu3 hw
        rw [if_neg z] at k
        exact fy_45 h4 hu3 hu9 (fun w2 y _ hy => k y (cy_F hy (show (2 : Int) ≠ 0 by decide)))
    · have EV : (fun N e => dv_one f n N (VS N) (VO N) (VI N) (VL N) d g e r.2) = fun _ e => e (lx_V f n r.2) := funext fun N => funext fun e => by unfold dv_one; rw [if_neg (by omega), if_pos q]
      rw [EV, if_neg (by omega), if_pos q] at k
      refine fy_let (d := d) hb hg.2 h c q (fun t ht => k t ?_)
      by_cases z : g (lx_V f n r.2) ≠ -1
      · rw [if_pos z] at ht ⊢; exact ht
      · rw [if_neg z] at ht ⊢; exact cy_F ht (show (5 : Int) ≠ 0 by decide)
    · have EV : (fun N e => dv_one f n N (VS N) (VO N) (VI N) (VL N) d g e r.2) = fun N e => -(VO N (d + 1) g e (ds_ad f n r.2)) := funext fun N => funext fun e => by unfold dv_one; rw [if_neg (by omega), if_neg (by omega), if_pos q]
      rw [EV, if_neg (by omega), if_neg (by omega), if_pos q] at k
      refine fy_en hb h c (fun t ht hd ku => ?_) k
      refine hO _ (d + 1) g t _ _ hg1 ht (fun u hu => ⟨fun _ => trivial, fun t0 hu0 h4 => fy_45 h4 hu hu0 (fun w y _ hy => ku y ?_)⟩)
      rw [ds_bd0 (r := (0, ds_ad f n r.2)) rfl] at hy
      have en : (ds_en f n d (O (d + 1) g) r.2).2 = (O (d + 1) g (ds_ad f n r.2)).2 := by unfold ds_en; rw [if_pos hd]
      rw [en]
      exact cy_m hy (fun o C hz hC => cy_Ag (k := 18) (by rw [q]; decide) (Or.inl rfl) (fun N e => (if_pos rfl).symm) (fun N e hs => by unfold cm_sm at *; omega) hC)
    · have EV : (fun N e => dv_one f n N (VS N) (VO N) (VI N) (VL N) d g e r.2) = fun N e => VS N (d + 1) g e (ds_ad f n r.2) := funext fun N => funext fun e => by unfold dv_one; rw [if_neg (by omega), if_neg (by omega), if_neg (by omega), if_pos q]
      rw [EV, if_neg (by omega), if_neg (by omega), if_neg (by omega), if_pos q] at k
      refine fy_en hb h c (fun t ht hd ku => ?_) k
      refine hS _ (d + 1) g t _ _ hg1 ht (fun u hu => fy_ex (by decide) hb hu (fun y hy => ku y ?_))
      rw [ds_bd0 (r := (0, ds_ad f n r.2)) rfl] at hy
      have en : (ds_en f n d (fun b => ds_bd (S (d + 1) g b) (ds_ex f n 15)) r.2) = ds_bd (S (d + 1) g (ds_ad f n r.2)) (ds_ex f n 15) := by unfold ds_en; rw [if_pos hd]
      rw [en]
      by_cases z : (ds_bd (S (d + 1) g (ds_ad f n r.2)) (ds_ex f n 15)).1 = 0
      · obtain ⟨z1, z2⟩ := ds_bdZ z
        obtain ⟨T1, q1⟩ := ds_exZ z2
        rw [ds_bd0 z1, q1] at hy ⊢
        obtain ⟨t1, t2⟩ := cz_ad (f := f) (n := n) (b := r.2) (by rw [q]; decide)
        obtain ⟨t3, t4⟩ := cz_ad (f := f) (n := n) (b := (S (d + 1) g (ds_ad f n r.2)).2) (by rw [T1]; decide)
        exact cy_m hy (fun o C _ hC => cy_Aw (by omega) (fun _ => t2) (by dsimp only; omega) (fun _ => t4) hC)
      · exact cy_F hy z
    · have EV : (fun N e => dv_one f n N (VS N) (VO N) (VI N) (VL N) d g e r.2) = fun N e => VI N (d + 1) g e (ds_ad f n r.2) := funext fun N => funext fun e => by unfold dv_one; rw [if_neg (by omega), if_neg (by omega), if_neg (by omega), if_neg (by omega), if_pos q]
      rw [EV, if_neg (by omega), if_neg (by omega), if_neg (by omega), if_neg (by omega), if_pos q] at k
      refine fy_en hb h c (fun t ht hd ku => ?_) k
      refine hI _ (d + 1) g t _ _ hg1 ht (fun y hy => ku y ?_)
      rw [ds_bd0 (r := (0, ds_ad f n r.2)) rfl] at hy
      have en : (ds_en f n d (I (d + 1) g) r.2).2 = (I (d + 1) g (ds_ad f n r.2)).2 := by unfold ds_en; rw [if_pos hd]
      rw [en]
      obtain ⟨t1, t2⟩ := cz_ad (f := f) (n := n) (b := r.2) (by rw [q]; decide)
      exact cy_m hy (fun o C _ hC => cy_Aw (by omega) (fun _ => t2) (Int.le_refl _) (fun z => z) hC)
    · have EV : (fun N e => dv_one f n N (VS N) (VO N) (VI N) (VL N) d g e r.2) = fun N e => VL N (d + 1) g e (ds_ad f n r.2) := funext fun N => funext fun e => by unfold dv_one; rw [if_neg (by omega), if_neg (by omega), if_neg (by omega), if_neg (by omega), if_neg (by omega), if_pos q]
      rw [EV, if_neg (by omega), if_neg (by omega), if_neg (by omega), if_neg (by omega), if_neg (by omega), if_pos q] at k
      refine fy_en hb h c (fun t ht hd ku => ?_) k
      refine hL _ d g t _ _ hg hd ht (fun y hy => ku y ?_)
      rw [ds_bd0 (r := (0, ds_ad f n r.2)) rfl] at hy
      have en : (ds_en f n d (L (d + 1) g) r.2).2 = (L (d + 1) g (ds_ad f n r.2)).2 := by unfold ds_en; rw [if_pos hd]
      rw [en]
      obtain ⟨t1, t2⟩ := cz_ad (f := f) (n := n) (b := r.2) (by rw [q]; decide)
      refine cy_m hy (fun o C _ hC => ?_)
      obtain ⟨B, u, hW, e', l, h'⟩ := hC
      refine ⟨B, u, hW, e', l, fun p0 pb bn n3 => ?_⟩
      obtain ⟨⟨y1, y2⟩, ⟨y3, y4⟩, y5, y6, y7, y8⟩ := h' p0 (by dsimp only; omega) t2 n3
      dsimp only at y1 y2 y3 y4
      exact ⟨⟨by omega, y2⟩, ⟨y3, by omega⟩, y5, y6, y7, y8⟩
  · have e := cy_bad h c
    rw [e]
    refine ⟨fun q => ?_, (fun q => by cases q), (fun q => by cases q), (fun q => by cases q), (fun q => by cases q), (fun q => by cases q), fun q => by cases q⟩
    refine fy_name (d := d) hb h (fun t ht => k t ?_)
    rw [ds_bdF c] at ht ⊢
    exact cy_F ht c
end D4
