/-! Orientation, the circle's test, the order of points, over whole numbers. -/
def ori (a b c : Int × Int) : Int := (b.1 - a.1) * (c.2 - a.2) - (b.2 - a.2) * (c.1 - a.1)
def inc (a b c d : Int × Int) : Int :=
  ((a.1 - d.1) * (a.1 - d.1) + (a.2 - d.2) * (a.2 - d.2)) * ((b.1 - d.1) * (c.2 - d.2) - (b.2 - d.2) * (c.1 - d.1))
  + ((b.1 - d.1) * (b.1 - d.1) + (b.2 - d.2) * (b.2 - d.2)) * ((c.1 - d.1) * (a.2 - d.2) - (c.2 - d.2) * (a.1 - d.1))
  + ((c.1 - d.1) * (c.1 - d.1) + (c.2 - d.2) * (c.2 - d.2)) * ((a.1 - d.1) * (b.2 - d.2) - (a.2 - d.2) * (b.1 - d.1))
def lex (a b : Int × Int) : Prop := a.1 < b.1 ∨ (a.1 = b.1 ∧ a.2 < b.2)
theorem ori_rot (a b c : Int × Int) : ori b c a = ori a b c := by unfold ori; grind
theorem ori_swap (a b c : Int × Int) : ori b a c = - ori a b c := by unfold ori; grind
theorem ori_sum (a b c d : Int × Int) : ori a b d + ori b c d + ori c a d = ori a b c := by unfold ori; grind
theorem ori_gp (a b c d e : Int × Int) : ori a b c * ori a d e - ori a b d * ori a c e + ori a b e * ori a c d = 0 := by unfold ori; grind
theorem inc_rot (a b c d : Int × Int) : inc b c a d = inc a b c d := by unfold inc; grind
theorem inc_swap (a b c d : Int × Int) : inc b a c d = - inc a b c d := by unfold inc; grind
theorem inc_end (a b c d : Int × Int) : inc a b d c = - inc a b c d := by unfold inc; grind
theorem inc_pl (f t a g d : Int × Int) : inc f t a d * ori f t g - inc f t g d * ori f t a + inc f t g a * ori f t d = 0 := by unfold inc ori; grind
/-- the circle's test as a function of its last point, seen from b -/
theorem inc_lin (a b c d : Int × Int) : inc a b c d =
    (d.1 - b.1) * (((c.1 - b.1) * (c.1 - b.1) + (c.2 - b.2) * (c.2 - b.2)) * (a.2 - b.2) - ((a.1 - b.1) * (a.1 - b.1) + (a.2 - b.2) * (a.2 - b.2)) * (c.2 - b.2))
    + (d.2 - b.2) * (((a.1 - b.1) * (a.1 - b.1) + (a.2 - b.2) * (a.2 - b.2)) * (c.1 - b.1) - ((c.1 - b.1) * (c.1 - b.1) + (c.2 - b.2) * (c.2 - b.2)) * (a.1 - b.1))
    - ori a b c * ((d.1 - b.1) * (d.1 - b.1) + (d.2 - b.2) * (d.2 - b.2)) := by unfold inc ori; grind
theorem half_sector {p q ax ay bx by' : Int} (hA : ax < 0 ∨ ax = 0 ∧ ay < 0) (hB : 0 < bx ∨ bx = 0 ∧ 0 < by') (h1 : ax * by' - ay * bx < 0) (eA : p * ax + q * ay ≤ 0) (eB : p * bx + q * by' ≤ 0) : (p = 0 ∧ q = 0) ∨ q < 0 ∨ (q = 0 ∧ 0 < p) := by
  have key : q * (ax * by' - ay * bx) = ax * (p * bx + q * by') - bx * (p * ax + q * ay) := by grind
  have hax : ax ≤ 0 := by omega
  have hbx : 0 ≤ bx := by omega
  have h2 : 0 ≤ ax * (p * bx + q * by') := Int.mul_nonneg_of_nonpos_of_nonpos hax eB
  have h3 : bx * (p * ax + q * ay) ≤ 0 := Int.mul_nonpos_of_nonneg_of_nonpos hbx eA
  have h4 : q ≤ 0 := by
    rcases Int.lt_or_le 0 q with h | h
    · have := Int.mul_neg_of_pos_of_neg h h1
      omega
    · exact h
  rcases Int.lt_or_eq_of_le h4 with h | h
  · exact Or.inr (Or.inl h)
  · subst h
    have hax2 : ax < 0 := by
      rcases hA with h | ⟨h, h5⟩
      · exact h
      · subst h
        have : 0 ≤ (-ay) * bx := Int.mul_nonneg (by omega) hbx
        have e : (-ay) * bx = -(ay * bx) := Int.neg_mul ay bx
        omega
    have h6 : 0 ≤ p := by
      rcases Int.lt_or_le p 0 with h | h
      · have := Int.mul_pos_of_neg_of_neg h hax2
        omega
      · exact h
    rcases Int.lt_or_eq_of_le h6 with h | h
    · exact Or.inr (Or.inr ⟨rfl, h⟩)
    · exact Or.inl ⟨h.symm, rfl⟩
