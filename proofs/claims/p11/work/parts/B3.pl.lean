/-! a text is played -/
section PL
variable {J K M : Nat → Int → Int} {s t u : lf_Z} {f f' g A B sv F : Int → Int} {H H' : List rr_H} {X : mn_X} {I : Nat → Int → Int} {a b c d r j n n1 n2 v w x : Int} {T : Int → Int} {D : List Int} {L : List (Int × Int × Int)} {z : Bool}
/-- what one deed does, and whether it can be -/
def dd_T (X : mn_X) (w v x : Int) (J : Nat → Int → Int) (f : Int → Int) (H : List rr_H) (K : Nat → Int → Int) (f' : Int → Int) (H' : List rr_H) (z : Bool) : Prop := ((w < 23 ∨ 32 < w) → K = J ∧ f' = f ∧ H' = H ∧ z = true)
  ∧ (w = 23 → ∃ r : Int, gt_14 v x J f H K f' H' r ∧ (z = true ↔ r ≠ -1))
  ∧ (w = 24 → ∃ r : Int, gt_17 v x 0 J f H K f' H' r ∧ (z = true ↔ r ≠ -1))
  ∧ (w = 25 → ∃ r : Int, gt_17 v x 1 J f H K f' H' r ∧ (z = true ↔ r ≠ -1))
  ∧ (w = 26 → ∃ r : Int, gt_23 v 0 0 x J f H K f' H' r ∧ (z = true ↔ r ≠ -1))
  ∧ (w = 27 → ∃ r : Int, gt_63 v x J f H K f' H' r ∧ (z = true ↔ r ≠ -1))
  ∧ (w = 28 → gt_98 v x J f H K f' H' (lf_b z))
  ∧ (w = 29 → gt_100 v 0 J f H K f' H' (lf_b z))
  ∧ (w = 30 → gt_100 v 1 J f H K f' H' (lf_b z))
  ∧ (w = 31 → ∃ r : Int, gt_102 v x J f H K f' H' r ∧ (z = true ↔ r ≠ -1))
  ∧ (w = 32 → gt_71 X v J f H K f' H' (lf_b z))
theorem dd_no {r : Int} (h : r = -1) : (false = true ↔ r ≠ -1) := ⟨fun y => Bool.noConfusion y, fun y => absurd h y⟩
theorem dd_ye {r : Int} (h : ¬ r = -1) : (true = true ↔ r ≠ -1) := ⟨fun _ => h, fun _ => rfl⟩
/-- a deed of the class -/
theorem gc_104 {Q : Bool → lf_Z → Prop} (hF : gf_T s.1 f H) (hC : gc_T s.1 f H) (hX : gx_Xc X I s) (hB : gx_XB X)
    (k : ∀ (z : Bool) (t : lf_Z) (f' : Int → Int) (H' : List rr_H), dd_T X w v x s.1 f H t.1 f' H' z → gf_T t.1 f' H' → gc_T t.1 f' H' → gc_F s t → Q z t) : fw_104 w v x Q s := by
  unfold fw_104
  intro _
  refine ⟨fun q => k true s f H ?_ hF hC gc_Fr, fun q => gc_14 hF hC (fun r t f' H' h1 h2 h3 h4 _ => ⟨fun y => k false t f' H' ?_ h2 h3 h4, fun y => k true t f' H' ?_ h2 h3 h4⟩), fun q => gc_17 hF hC (fun r t f' H' h1 h2 h3 h4 _ => ⟨fun y => k false t f' H' ?_ h2 h3 h4, fun y => k true t f' H' ?_ h2 h3 h4⟩), fun q => gc_17 hF hC (fun r t f' H' h1 h2 h3 h4 _ => ⟨fun y => k false t f' H' ?_ h2 h3 h4, fun y => k true t f' H' ?_ h2 h3 h4⟩), fun q => gc_23 hF hC (fun r t f' H' h1 h2 h3 h4 _ => ⟨fun y => k false t f' H' ?_ h2 h3 h4, fun y => k true t f' H' ?_ h2 h3 h4⟩), fun q => gc_63 hF hC (fun r t f' H' h1 h2 h3 h4 _ => ⟨fun y => k false t f' H' ?_ h2 h3 h4, fun y => k true t f' H' ?_ h2 h3 h4⟩), fun q => gc_98 hF hC (fun z t f' H' h1 h2 h3 h4 => k z t f' H' ?_ h2 h3 h4), fun q => gc_100 hF hC (fun z t f' H' h1 h2 h3 h4 => k z t f' H' ?_ h2 h3 h4), fun q => gc_100 hF hC (fun z t f' H' h1 h2 h3 h4 => k z t f' H' ?_ h2 h3 h4), fun q => gc_102 hF hC (fun r t f' H' h1 h2 h3 h4 _ => ⟨fun y => k false t f' H' ?_ h2 h3 h4, fun y => k true t f' H' ?_ h2 h3 h4⟩), fun q => gc_71 hF hC hX hB (fun z t f' H' h1 h2 h3 h4 => k z t f' H' ?_ h2 h3 h4)⟩
  · exact ⟨fun _ => ⟨rfl, rfl, rfl, rfl⟩, fun e => absurd q (by omega), fun e => absurd q (by omega), fun e => absurd q (by omega), fun e => absurd q (by omega), fun e => absurd q (by omega), fun e => absurd q (by omega), fun e => absurd q (by omega), fun e => absurd q (by omega), fun e => absurd q (by omega), fun e => absurd q (by omega)⟩
  · exact ⟨fun e => absurd q (by omega), fun _ => ⟨r, h1, dd_no y⟩, fun e => absurd q (by omega), fun e => absurd q (by omega), fun e => absurd q (by omega), fun e => absurd q (by omega), fun e => absurd q (by omega), fun e => absurd q (by omega), fun e => absurd q (by omega), fun e => absurd q (by omega), fun e => absurd q (by omega)⟩
  · exact ⟨fun e => absurd q (by omega), fun _ => ⟨r, h1, dd_ye y⟩, fun e => absurd q (by omega), fun e => absurd q (by omega), fun e => absurd q (by omega), fun e => absurd q (by omega), fun e => absurd q (by omega), fun e => absurd q (by omega), fun e => absurd q (by omega), fun e => absurd q (by omega), fun e => absurd q (by omega)⟩
  · exact ⟨fun e => absurd q (by omega), fun e => absurd q (by omega), fun _ => ⟨r, h1, dd_no y⟩, fun e => absurd q (by omega), fun e => absurd q (by omega), fun e => absurd q (by omega), fun e => absurd q (by omega), fun e => absurd q (by omega), fun e => absurd q (by omega), fun e => absurd q (by omega), fun e => absurd q (by omega)⟩
  · exact ⟨fun e => absurd q (by omega), fun e => absurd q (by omega), fun _ => ⟨r, h1, dd_ye y⟩, fun e => absurd q (by omega), fun e => absurd q (by omega), fun e => absurd q (by omega), fun e => absurd q (by omega), fun e => absurd q (by omega), fun e => absurd q (by omega), fun e => absurd q (by omega), fun e => absurd q (by omega)⟩
  · exact ⟨fun e => absurd q (by omega), fun e => absurd q (by omega), fun e => absurd q (by omega), fun _ => ⟨r, h1, dd_no y⟩, fun e => absurd q (by omega), fun e => absurd q (by omega), fun e => absurd q (by omega), fun e => absurd q (by omega), fun e => absurd q (by omega), fun e => absurd q (by omega), fun e => absurd q (by omega)⟩
  · exact ⟨fun e => absurd q (by omega), fun e => absurd q (by omega), fun e => absurd q (by omega), fun _ => ⟨r, h1, dd_ye y⟩, fun e => absurd q (by omega), fun e => absurd q (by omega), fun e => absurd q (by omega), fun e => absurd q (by omega), fun e => absurd q (by omega), fun e => absurd q (by omega), fun e => absurd q (by omega)⟩
  · exact ⟨fun e => absurd q (by omega), fun e => absurd q (by omega), fun e => absurd q (by omega), fun e => absurd q (by omega), fun _ => ⟨r, h1, dd_no y⟩, fun e => absurd q (by omega), fun e => absurd q (by omega), fun e => absurd q (by omega), fun e => absurd q (by omega), fun e => absurd q (by omega), fun e => absurd q (by omega)⟩
  · exact ⟨fun e => absurd q (by omega), fun e => absurd q (by omega), fun e => absurd q (by omega), fun e => absurd q (by omega), fun _ => ⟨r, h1, dd_ye y⟩, fun e => absurd q (by omega), fun e => absurd q (by omega), fun e => absurd q (by omega), fun e => absurd q (by omega), fun e => absurd q (by omega), fun e => absurd q (by omega)⟩
  · exact ⟨fun e => absurd q (by omega), fun e => absurd q (by omega), fun e => absurd q (by omega), fun e => absurd q (by omega), fun e => absurd q (by omega), fun _ => ⟨r, h1, dd_no y⟩, fun e => absurd q (by omega), fun e => absurd q (by omega), fun e => absurd q (by omega), fun e => absurd q (by omega), fun e => absurd q (by omega)⟩
  · exact ⟨fun e => absurd q (by omega), fun e => absurd q (by omega), fun e => absurd q (by omega), fun e => absurd q (by omega), fun e => absurd q (by omega), fun _ => ⟨r, h1, dd_ye y⟩, fun e => absurd q (by omega), fun e => absurd q (by omega), fun e => absurd q (by omega), fun e => absurd q (by omega), fun e => absurd q (by omega)⟩
  · exact ⟨fun e => absurd q (by omega), fun e => absurd q (by omega), fun e => absurd q (by omega), fun e => absurd q (by omega), fun e => absurd q (by omega), fun e => absurd q (by omega), fun _ => h1, fun e => absurd q (by omega), fun e => absurd q (by omega), fun e => absurd q (by omega), fun e => absurd q (by omega)⟩
  · exact ⟨fun e => absurd q (by omega), fun e => absurd q (by omega), fun e => absurd q (by omega), fun e => absurd q (by omega), fun e => absurd q (by omega), fun e => absurd q (by omega), fun e => absurd q (by omega), fun _ => h1, fun e => absurd q (by omega), fun e => absurd q (by omega), fun e => absurd q (by omega)⟩
  · exact ⟨fun e => absurd q (by omega), fun e => absurd q (by omega), fun e => absurd q (by omega), fun e => absurd q (by omega), fun e => absurd q (by omega), fun e => absurd q (by omega), fun e => absurd q (by omega), fun e => absurd q (by omega), fun _ => h1, fun e => absurd q (by omega), fun e => absurd q (by omega)⟩
  · exact ⟨fun e => absurd q (by omega), fun e => absurd q (by omega), fun e => absurd q (by omega), fun e => absurd q (by omega), fun e => absurd q (by omega), fun e => absurd q (by omega), fun e => absurd q (by omega), fun e => absurd q (by omega), fun e => absurd q (by omega), fun _ => ⟨r, h1, dd_no y⟩, fun e => absurd q (by omega)⟩
  · exact ⟨fun e => absurd q (by omega), fun e => absurd q (by omega), fun e => absurd q (by omega), fun e => absurd q (by omega), fun e => absurd q (by omega), fun e => absurd q (by omega), fun e => absurd q (by omega), fun e => absurd q (by omega), fun e => absurd q (by omega), fun _ => ⟨r, h1, dd_ye y⟩, fun e => absurd q (by omega)⟩
  · exact ⟨fun e => absurd q (by omega), fun e => absurd q (by omega), fun e => absurd q (by omega), fun e => absurd q (by omega), fun e => absurd q (by omega), fun e => absurd q (by omega), fun e => absurd q (by omega), fun e => absurd q (by omega), fun e => absurd q (by omega), fun e => absurd q (by omega), fun _ => h1⟩
/-! answers are -1 or more -/
theorem gq_oB {ok : Prop} {ro : Int} {f1 : Int → Int} {H1 : List rr_H} (h : gq_o ok ro (-1) f1 H1 J f H K f' H' r) (h0 : ok → 0 ≤ ro) : r = -1 ∨ 0 ≤ r := by
  rcases h.2 with ⟨_, _, _, e⟩ | ⟨q, _, _, e⟩
  · exact Or.inl e
  · exact Or.inr (by rw [e]; exact h0 q)
theorem gt_14B (hF : gf_T J f H) (h : gt_14 a b J f H K f' H' r) : r = -1 ∨ 0 ≤ r := by
  rcases h with ⟨_, _, _, _, e⟩ | ⟨_, _, _, _, e⟩
  · exact Or.inl e
  · exact Or.inr (by rw [e]; exact hF.1.1.1.1)
theorem gt_17B (hF : gf_T J f H) (h : gt_17 a b c J f H K f' H' r) : r = -1 ∨ 0 ≤ r := by
  rcases h with ⟨_, _, _, _, e⟩ | ⟨_, _, _, _, e⟩
  · exact Or.inl e
  · exact Or.inr (by rw [e]; exact hF.1.1.2.1.1)
theorem gt_23B (hF : gf_T J f H) (h : gt_23 a b c d J f H K f' H' r) : r = -1 ∨ 0 ≤ r := by
  rcases h with ⟨_, _, _, _, e⟩ | ⟨_, _, _, _, e⟩
  · exact Or.inl e
  · exact Or.inr (by rw [e]; exact hF.1.1.2.2.1.1)
theorem gt_63B (_ : gf_T J f H) (h : gt_63 a b J f H K f' H' r) : r = -1 ∨ 0 ≤ r := gq_oB h (fun q => by
  rcases sg_bB (f := f) with e | e
  · exact absurd e q.2.2
  · exact e.1)
theorem gt_102B (_ : gf_T J f H) (h : gt_102 a b J f H K f' H' r) : r = -1 ∨ 0 ≤ r := gq_oB h (fun q => by
  rcases sg_bB (f := f) with e | e
  · exact absurd e q.2.2
  · exact e.1)
theorem dd_z0 {r : Int} (h : z = true ↔ r ≠ -1) (hr : r = -1 ∨ 0 ≤ r) (q : r < 0) : z = false := by
  cases z with
  | false => rfl
  | true => exact absurd (h.1 rfl) (fun y => y (by omega))
theorem dd_z1 {r : Int} (h : z = true ↔ r ≠ -1) (q : ¬ r < 0) : z = true := h.2 (by omega)
/-- a deed of the reference -/
theorem gr_281 {Q : Bool → lf_Z → Prop} (e0 : s.1 98 a = w - 20) (e1 : 22 < w → s.1 98 (a + 1) = v) (e2 : 22 < w → tx_sh ((w - 23) * 5 + 2) ≠ 0 → s.1 98 (a + 2) = x) (h9 : w = 26 → 0 ≤ v ∧ v ≤ 9)
    (hF : gf_T J f H) (hR : gr_T sv J f H (s.1 96)) (hX : gx_Xr X T s) (hB : gx_XB X) (hT : dd_T X w v x J f H K f' H' z) (k : ∀ t : lf_Z, gr_F s t → gr_T sv K f' H' (t.1 96) → Q z t) : fw_281 a Q s := by
  obtain ⟨d0, d1, d2, d3, d4, d5, d6, d7, d8, d9, d10⟩ := hT
  unfold fw_281
  intro _ _ _ _
  rw [e0]
  refine ⟨fun q => ?_, fun q => ?_, fun q => ?_, fun q => ?_, fun q => ?_, fun q => ?_, fun q => ?_, fun q => ?_, fun q => ?_, fun q => ?_, fun q => ?_⟩
  · obtain ⟨rfl, rfl, rfl, rfl⟩ := d0 (by omega)
    exact k s gr_Fr hR
  · have c : w = 23 := by omega
    rw [e1 (by omega), e2 (by omega) (by rw [c]; decide)]
    obtain ⟨r, h1, h2⟩ := d1 c
    have hB1 := gt_14B hF h1
    exact gr_182 hF hR h1 (fun t g1 g2 _ => ⟨fun y => dd_z0 h2 hB1 y ▸ k t g1 g2, fun y => dd_z1 h2 y ▸ k t g1 g2⟩)
  · have c : w = 24 := by omega
    rw [e1 (by omega), e2 (by omega) (by rw [c]; decide)]
    obtain ⟨r, h1, h2⟩ := d2 c
    have hB1 := gt_17B hF h1
    exact gr_184 (Or.inl rfl) hF hR h1 (fun t g1 g2 _ => ⟨fun y => dd_z0 h2 hB1 y ▸ k t g1 g2, fun y => dd_z1 h2 y ▸ k t g1 g2⟩)
  · have c : w = 25 := by omega
    rw [e1 (by omega), e2 (by omega) (by rw [c]; decide)]
    obtain ⟨r, h1, h2⟩ := d3 c
    have hB1 := gt_17B hF h1
    exact gr_184 (Or.inr rfl) hF hR h1 (fun t g1 g2 _ => ⟨fun y => dd_z0 h2 hB1 y ▸ k t g1 g2, fun y => dd_z1 h2 y ▸ k t g1 g2⟩)
  · have c : w = 26 := by omega
    rw [e1 (by omega), e2 (by omega) (by rw [c]; decide)]
    obtain ⟨r, h1, h2⟩ := d4 c
    have hB1 := gt_23B hF h1
    exact gr_190 (h9 c) hF hR h1 (fun t g1 g2 _ => ⟨fun y => dd_z0 h2 hB1 y ▸ k t g1 g2, fun y => dd_z1 h2 y ▸ k t g1 g2⟩)
  · have c : w = 27 := by omega
    rw [e1 (by omega), e2 (by omega) (by rw [c]; decide)]
    obtain ⟨r, h1, h2⟩ := d5 c
    have hB1 := gt_63B hF h1
    exact gr_240 hF hR h1 (fun t g1 g2 _ => ⟨fun y => dd_z0 h2 hB1 y ▸ k t g1 g2, fun y => dd_z1 h2 y ▸ k t g1 g2⟩)
  · have c : w = 28 := by omega
    rw [e1 (by omega), e2 (by omega) (by rw [c]; decide)]
    exact gr_248 hF hR (d6 c) k
  · have c : w = 29 := by omega
    rw [e1 (by omega)]
    exact gr_250 (Or.inl rfl) hF hR (d7 c) k
  · have c : w = 30 := by omega
    rw [e1 (by omega)]
    exact gr_250 (Or.inr rfl) hF hR (d8 c) k
  · have c : w = 31 := by omega
    rw [e1 (by omega), e2 (by omega) (by rw [c]; decide)]
    obtain ⟨r, h1, h2⟩ := d9 c
    have hB1 := gt_102B hF h1
    exact gr_253 hF hR h1 (fun t g1 g2 _ => ⟨fun y => dd_z0 h2 hB1 y ▸ k t g1 g2, fun y => dd_z1 h2 y ▸ k t g1 g2⟩)
  · have c : w = 32 := by omega
    rw [e1 (by omega)]
    exact gr_258 hF hR hX hB (d10 c) k
/-! all clauses of a text -/
def pl_T (X : mn_X) : List (Int × Int × Int) → Int → (Nat → Int → Int) → (Int → Int) → List rr_H → (Nat → Int → Int) → (Int → Int) → List rr_H → Int → Prop
  | [], _, J, f, H, K, f', H', r => K = J ∧ f' = f ∧ H' = H ∧ r = -1
  | q :: L, i, J, f, H, K, f', H', r => ∃ (K1 : Nat → Int → Int) (f1 : Int → Int) (H1 : List rr_H) (z : Bool), dd_T X q.1 q.2.1 q.2.2 J f H K1 f1 H1 z ∧ gf_T K1 f1 H1 ∧ ((z = true ∧ pl_T X L (i + 1) K1 f1 H1 K f' H' r) ∨ (z = false ∧ K = K1 ∧ f' = f1 ∧ H' = H1 ∧ r = i))
/-- the clauses as deeds -/
def pl_d (F : Int → Int) (n : Int) (D : List Int) : List (Int × Int × Int) := D.map (fun b => (cs_w F n b, cs_v F n b, cs_x F n b))
theorem pl_dl : (pl_d F n D).length = D.length := List.length_map _
theorem pl_di {i : Nat} {b : Int} (h : D[i]? = some b) : (pl_d F n D)[i]? = some (cs_w F n b, cs_v F n b, cs_x F n b) := by
  unfold pl_d
  rw [List.getElem?_map, h]
  rfl
theorem pl_drop {i : Nat} {b : Int} (h : D[i]? = some b) : (pl_d F n D).drop i = (cs_w F n b, cs_v F n b, cs_x F n b) :: (pl_d F n D).drop (i + 1) := by
  have hi : i < (pl_d F n D).length := by
    have := List.getElem?_eq_some_iff.mp (pl_di (F := F) (n := n) h)
    exact this.1
  rw [List.drop_eq_getElem_cons hi]
  have := List.getElem?_eq_some_iff.mp (pl_di (F := F) (n := n) h)
  rw [this.2]
theorem pl_at {i : Nat} (h : i < D.length) : ∃ b, D[i]? = some b := ⟨D[i], List.getElem?_eq_getElem h⟩
/-- played of the class, behind the choice of the text -/
theorem gc_103p {Q : Int → lf_Z → Prop} {y : Nat} (hl : s.1 (35 + 7 * y) 7 = D.length) (h24 : D.length ≤ 24) (y4 : y < 4) (hrow : ∀ (i : Nat) (b : Int), D[i]? = some b → s.1 (39 + 7 * y) i = cs_w F n b ∧ s.1 (40 + 7 * y) i = cs_v F n b ∧ s.1 (41 + 7 * y) i = cs_x F n b)
    (hF : gf_T s.1 f H) (hC : gc_T s.1 f H) (hX : gx_Xc X I s) (hB : gx_XB X)
    (k : ∀ (r : Int) (t : lf_Z) (f' : Int → Int) (H' : List rr_H), pl_T X (pl_d F n D) 0 s.1 f H t.1 f' H' r → gf_T t.1 f' H' → gc_T t.1 f' H' → gc_F s t → Q r t) : fw_103_p15L Q y 0 s := by
  refine ⟨fun x3 t => ∃ (i : Nat) (fc : Int → Int) (Hc : List rr_H), x3 = i ∧ i ≤ D.length ∧ gf_T t.1 fc Hc ∧ gc_T t.1 fc Hc ∧ gc_F s t ∧ (∀ (K : Nat → Int → Int) (f' : Int → Int) (H' : List rr_H) (r : Int), pl_T X ((pl_d F n D).drop i) i t.1 fc Hc K f' H' r → pl_T X (pl_d F n D) 0 s.1 f H K f' H' r), ?_, ⟨0, f, H, rfl, Nat.zero_le _, hF, hC, gc_Fr, fun K f' H' r h => h⟩⟩
  intro x3 t ⟨i, fc, Hc, hx, hi, tF, tC, tg, ih⟩
  subst hx
  have e7 : t.1 (35 + 7 * y) 7 = D.length := by rw [tg.1 (35 + 7 * y) (by omega)]; exact hl
  unfold fw_103_p15
  intro _
  rw [e7]
  intro _
  have fin : D.length ≤ i → Q (-1) t := fun q => by
    have e : (pl_d F n D).drop i = [] := List.drop_eq_nil_of_le (by rw [pl_dl]; exact q)
    refine k (-1) t fc Hc (ih _ _ _ _ ?_) tF tC tg
    rw [e]
    exact ⟨rfl, rfl, rfl, rfl⟩
  refine ⟨fun q => fin (by omega), fun q => ⟨fun q2 => fin (by omega), fun _ _ => ?_⟩⟩
  obtain ⟨b, hb⟩ := pl_at (D := D) (i := i) (by omega)
  obtain ⟨r1, r2, r3⟩ := hrow i b hb
  have c1 : t.1 (39 + 7 * y) i = cs_w F n b := by rw [tg.1 (39 + 7 * y) (by omega)]; exact r1
  have c2 : t.1 (40 + 7 * y) i = cs_v F n b := by rw [tg.1 (40 + 7 * y) (by omega)]; exact r2
  have c3 : t.1 (41 + 7 * y) i = cs_x F n b := by rw [tg.1 (41 + 7 * y) (by omega)]; exact r3
  rw [c1, c2, c3]
  refine gc_104 tF tC (gx_XcF hX tg) hB (fun z t' f1 H1 h1 h2 h3 h4 => ⟨fun q => ?_, fun q => ?_⟩)
  · refine ⟨i + 1, f1, H1, by omega, by omega, h2, h3, gc_Ft tg h4, fun K f' H' r h => ih K f' H' r ?_⟩
    rw [pl_drop hb]
    exact ⟨t'.1, f1, H1, z, h1, h2, Or.inl ⟨q, h⟩⟩
  · refine k i t' f1 H1 (ih _ _ _ _ ?_) h2 h3 (gc_Ft tg h4)
    rw [pl_drop hb]
    exact ⟨t'.1, f1, H1, z, h1, h2, Or.inr ⟨q, rfl, rfl, rfl, rfl⟩⟩
/-- played of the reference, behind the choice of the text -/
theorem gr_280p {Q : Int → lf_Z → Prop} (hl : s.1 98 (705 * a) = D.length) (hrow : ∀ (i : Nat) (b : Int), D[i]? = some b → s.1 98 (705 * a + 1 + 4 * i) = cs_w F n b - 20 ∧ (22 < cs_w F n b → s.1 98 (705 * a + 1 + 4 * i + 1) = cs_v F n b) ∧ (22 < cs_w F n b → tx_sh ((cs_w F n b - 23) * 5 + 2) ≠ 0 → s.1 98 (705 * a + 1 + 4 * i + 2) = cs_x F n b) ∧ (cs_w F n b = 26 → 0 ≤ cs_v F n b ∧ cs_v F n b ≤ 9))
    (hF : gf_T J f H) (hR : gr_T sv J f H (s.1 96)) (hX : gx_Xr X T s) (hB : gx_XB X) (hT : pl_T X (pl_d F n D) 0 J f H K f' H' r) (k : ∀ t : lf_Z, gr_F s t → gr_T sv K f' H' (t.1 96) → Q r t) : fw_280_p22L Q a 0 s := by
  refine ⟨fun x2 t => ∃ (i : Nat) (Jc : Nat → Int → Int) (fc : Int → Int) (Hc : List rr_H), x2 = i ∧ i ≤ D.length ∧ gf_T Jc fc Hc ∧ gr_T sv Jc fc Hc (t.1 96) ∧ gr_F s t ∧ pl_T X ((pl_d F n D).drop i) i Jc fc Hc K f' H' r, ?_, ⟨0, J, f, H, rfl, Nat.zero_le _, hF, hR, gr_Fr, hT⟩⟩
  intro x2 t ⟨i, Jc, fc, Hc, hx, hi, tF, tR, tg, tT⟩
  subst hx
  have e98 : t.1 98 = s.1 98 := tg.1 98 (by decide) (by decide) (by decide) (by decide)
  unfold fw_280_p22
  intro _ _
  rw [e98, hl]
  intro _
  refine ⟨fun q => ?_, fun q => ?_⟩
  · have e : (pl_d F n D).drop i = [] := List.drop_eq_nil_of_le (by rw [pl_dl]; omega)
    rw [e] at tT
    obtain ⟨rfl, rfl, rfl, rfl⟩ := tT
    exact k t tg tR
  · obtain ⟨b, hb⟩ := pl_at (D := D) (i := i) (by omega)
    obtain ⟨r1, r2, r3, r4⟩ := hrow i b hb
    rw [pl_drop hb] at tT
    obtain ⟨K1, f1, H1, z, g1, g2, g3⟩ := tT
    refine gr_281 (by rw [e98]; exact r1) (fun y => by rw [e98]; exact r2 y) (fun y y2 => by rw [e98]; exact r3 y y2) r4 tF tR (gx_XrF hX tg) hB g1 (fun t' h1 h2 => ⟨fun y => ?_, fun y => ?_⟩)
    · rcases g3 with ⟨_, g3⟩ | ⟨g3, _⟩
      · exact ⟨i + 1, K1, f1, H1, by omega, by omega, g2, h2, gr_Ft tg h1, by rw [show ((i + 1 : Nat) : Int) = (i : Int) + 1 by omega]; exact g3⟩
      · rw [y] at g3; exact Bool.noConfusion g3
    · rcases g3 with ⟨g3, _⟩ | ⟨_, rfl, rfl, rfl, rfl⟩
      · rw [y] at g3; exact Bool.noConfusion g3
      · exact k t' (gr_Ft tg h1) h2
end PL
