/-! small things for the law's loop -/
section GZ
variable {p : Int → Prop} {r : Int} {I : Nat → Int → Int} {P : Nat → Option Nat} {x1 x2 x3 x4 y1 y2 y3 y4 v : Int}
abbrev gx_Y : Type := (Nat → Int → Int) → (Nat → Option Nat) → Prop
/-- a cell of the script as yes or no -/
def gx_z (v : Int) : Int := if v = 0 then 0 else 1
theorem gx_zz (h : (y1 = 0 ∧ v = 0) ∨ (y1 = 1 ∧ v ≠ 0)) : y1 = gx_z v := by
  unfold gx_z
  rcases h with ⟨a, b⟩ | ⟨a, b⟩
  · rw [if_pos b, a]
  · rw [if_neg b, a]
theorem gx_a2 {R : Int → Int → Int → gx_Y} (h1 : x1 = y1) (h2 : x2 = y2) (hp : p r) (h : R x1 x2 r I P) : gx_MP (R y1 y2) p I P := by
  rw [← h1, ← h2]; exact ⟨r, hp, h⟩
theorem gx_a3 {R : Int → Int → Int → Int → gx_Y} (h1 : x1 = y1) (h2 : x2 = y2) (h3 : x3 = y3) (hp : p r) (h : R x1 x2 x3 r I P) : gx_MP (R y1 y2 y3) p I P := by
  rw [← h1, ← h2, ← h3]; exact ⟨r, hp, h⟩
theorem gx_a4 {R : Int → Int → Int → Int → Int → gx_Y} (h1 : x1 = y1) (h2 : x2 = y2) (h3 : x3 = y3) (h4 : x4 = y4) (hp : p r) (h : R x1 x2 x3 x4 r I P) : gx_MP (R y1 y2 y3 y4) p I P := by
  rw [← h1, ← h2, ← h3, ← h4]; exact ⟨r, hp, h⟩
theorem gx_b2 {R : Int → Int → (Int → Prop) → gx_Y} (h1 : x1 = y1) (h2 : x2 = y2) (h : R y1 y2 p I P) : R x1 x2 p I P := by
  rw [h1, h2]; exact h
theorem gx_b3 {R : Int → Int → Int → (Int → Prop) → gx_Y} (h1 : x1 = y1) (h2 : x2 = y2) (h3 : x3 = y3) (h : R y1 y2 y3 p I P) : R x1 x2 x3 p I P := by
  rw [h1, h2, h3]; exact h
theorem gx_b4 {R : Int → Int → Int → Int → (Int → Prop) → gx_Y} (h1 : x1 = y1) (h2 : x2 = y2) (h3 : x3 = y3) (h4 : x4 = y4) (h : R y1 y2 y3 y4 p I P) : R x1 x2 x3 x4 p I P := by
  rw [h1, h2, h3, h4]; exact h
end GZ
