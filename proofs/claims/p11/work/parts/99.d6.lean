/-! asks are worth 0 or 1; all of the reader -/
section D6
variable {f g : Int → Int} {n law : Int} {s t u z : lf_Z} {r : Int × Int} {W : cy_W}
theorem dv_lp01 {ok : Int → Bool} {G : Int → Int × Int} {V : Int → Int} (hV : ∀ b, V b = 0 ∨ V b = 1) (hok : ∀ x : Int, ok x = true → x = 45 ∨ x = 46) : ∀ (K : Nat) (b v : Int), (v = 0 ∨ v = 1) → dv_lp f n ok G V cm_2 K b v = 0 ∨ dv_lp f n ok G V cm_2 K b v = 1
  | 0, _, _, hv => hv
  | K + 1, b, v, hv => by
    show (if ok (lx_T f n b) = true then dv_lp f n ok G V cm_2 K (G (ds_ad f n b)).2 (cm_2 (lx_T f n b) v (V (ds_ad f n b))) else v) = 0 ∨ (if ok (lx_T f n b) = true then dv_lp f n ok G V cm_2 K (G (ds_ad f n b)).2 (cm_2 (lx_T f n b) v (V (ds_ad f n b))) else v) = 1
    by_cases c : ok (lx_T f n b) = true
    · rw [if_pos c]
      exact dv_lp01 hV hok K _ _ (cm_2b (hok _ c) (hV _) hv)
    · rw [if_neg c]; exact hv
theorem dv_B : ∀ m : Nat, (∀ N d g e b, (dv_T f n law N m).2.2.2.2.2.1 d g e b = 0 ∨ (dv_T f n law N m).2.2.2.2.2.1 d g e b = 1) ∧ (∀ N d g e b, (dv_T f n law N m).2.2.2.2.2.2.1 d g e b = 0 ∨ (dv_T f n law N m).2.2.2.2.2.2.1 d g e b = 1) ∧ (∀ N d g e b, (dv_T f n law N m).2.2.2.2.2.2.2 d g e b = 0 ∨ (dv_T f n law N m).2.2.2.2.2.2.2 d g e b = 1)
  | 0 => ⟨fun _ _ _ _ _ => Or.inl rfl, fun _ _ _ _ _ => Or.inl rfl, fun _ _ _ _ _ => Or.inl rfl⟩
  | m + 1 => by
    obtain ⟨_, h7, h8⟩ := dv_B m
    have is1 : ∀ w : Int, (w = 45 ∨ w = 46) → ∀ x : Int, ds_is w x = true → x = 45 ∨ x = 46 := fun w hw x hx => by
      unfold ds_is at hx
      have := of_decide_eq_true hx
      omega
    refine ⟨fun N d g e b => ?_, fun N d g e b => ?_, fun N d g e b => ?_⟩
    · exact dv_lp01 (h7 N d g e) (is1 46 (Or.inr rfl)) 300 _ _ (h7 N d g e b)
    · exact dv_lp01 (h8 N d g e) (is1 45 (Or.inl rfl)) 300 _ _ (h8 N d g e b)
    · show dv_ask f n (ds_T f n law m).1 (dv_T f n law N m).1 (dv_T f n law N m).2.2.2.2.2.2.2 d g e b = 0 ∨ dv_ask f n (ds_T f n law m).1 (dv_T f n law N m).1 (dv_T f n law N m).2.2.2.2.2.2.2 d g e b = 1
      unfold dv_ask
      split
      · have := h8 N (d + 1) g e (ds_ad f n b)
        omega
      · unfold lf_b
        split
        · exact Or.inr rfl
        · exact Or.inl rfl
theorem fy_rec (hb : cl_tp f n) : ∀ m : Nat, cy_G z f n law (fv_41T m).1 (ds_T f n law m).1 (fun N => (dv_T f n law N m).1) ∧ cy_G z f n law (fv_41T m).2.1 (ds_T f n law m).2.1 (fun N => (dv_T f n law N m).2.1) ∧ cy_G z f n law (fv_41T m).2.2.1 (ds_T f n law m).2.2.1 (fun N => (dv_T f n law N m).2.2.1) ∧ cy_G z f n law (fv_41T m).2.2.2.1 (ds_T f n law m).2.2.2.1 (fun N => (dv_T f n law N m).2.2.2.1) ∧ cy_GL z f n law (fv_41T m).2.2.2.2.1 (ds_T f n law m).2.2.2.2.1 (fun N => (dv_T f n law N m).2.2.2.2.1) ∧ cy_G z f n law (fv_41T m).2.2.2.2.2.1 (ds_T f n law m).2.2.2.2.2.1 (fun N => (dv_T f n law N m).2.2.2.2.2.1) ∧ cy_G z f n law (fv_41T m).2.2.2.2.2.2.1 (ds_T f n law m).2.2.2.2.2.2.1 (fun N => (dv_T f n law N m).2.2.2.2.2.2.1) ∧ cy_G z f n law (fv_41T m).2.2.2.2.2.2.2 (ds_T f n law m).2.2.2.2.2.2.2 (fun N => (dv_T f n law N m).2.2.2.2.2.2.2) := by
  intro m
  induction m with
  | zero => exact ⟨fun _ _ _ _ _ _ _ _ _ => trivial, fun _ _ _ _ _ _ _ _ _ => trivial, fun _ _ _ _ _ _ _ _ _ => trivial, fun _ _ _ _ _ _ _ _ _ => trivial, fun _ _ _ _ _ _ _ _ _ _ => trivial, fun _ _ _ _ _ _ _ _ _ => trivial, fun _ _ _ _ _ _ _ _ _ => trivial, fun _ _ _ _ _ _ _ _ _ => trivial⟩
  | succ m ih =>
    obtain ⟨hS, hP, hO, hI, hL, hE, hB, hA⟩ := ih
    have hv := dv_B (f := f) (n := n) (law := law) m
    exact ⟨fy_41 hb hP, fy_42 hb hO, fy_43 hb hS hO hI hL, fy_49 hb hS hE, fy_54 hb hS, fy_50 hb hB hv.2.1, fy_51 hb hA hv.2.2, fy_52 hb hS hA hv.2.2⟩
/-- a sum of a clause: readSum(0), with what it writes -/
theorem fy_sum {Q : lf_Z → Prop} (hb : cl_tp f n) (hg : cy_gB g) (h : cy_S z W f n g law s r) (k : ∀ t : lf_Z, cy_S z (cy_A law n r.2 ((ds_T f n law 200).1 0 g r.2).2 0 g (fun N e => (dv_T f n law N 200).1 0 g e r.2) W) f n g law t (ds_bd r ((ds_T f n law 200).1 0 g)) → Q t) : fv_41 0 Q s := (fy_rec hb 200).1 W 0 g s r Q ⟨Int.le_refl _, hg⟩ h k
end D6
