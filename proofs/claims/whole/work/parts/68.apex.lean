/-! The apex over an edge: whose circle is empty. -/
/-- a site behind the edge stays outside, when the face behind has an empty circle -/
theorem apex_right {f t a g d : Int × Int} (oa : 0 < ori f t a) (og : ori f t g < 0) (ea : inc t f g a ≤ 0) (ed : inc t f g d ≤ 0) (od : ori f t d ≤ 0) : inc f t a d ≤ 0 := by
  have pl := inc_pl f t a g d
  have e1 : inc f t g d = - inc t f g d := inc_swap t f g d
  have e2 : inc f t g a = - inc t f g a := inc_swap t f g a
  have m1 : 0 ≤ inc f t g d * ori f t a := Int.mul_nonneg (by omega) (Int.le_of_lt oa)
  have m2 : inc f t g a * ori f t d ≤ 0 := Int.mul_nonpos_of_nonneg_of_nonpos (by omega) od
  rcases Int.lt_or_le 0 (inc f t a d) with k | k
  · have := Int.mul_neg_of_pos_of_neg k og
    omega
  · exact k
/-- a better apex keeps what was outside outside -/
theorem apex_step {f t a b d : Int × Int} (oa : 0 < ori f t a) (ob : 0 < ori f t b) (od : 0 < ori f t d) (eb : 0 < inc f t a b) (ed : inc f t a d ≤ 0) : inc f t b d < 0 := by
  have pl := inc_pl f t b a d
  have m1 : inc f t a d * ori f t b ≤ 0 := Int.mul_nonpos_of_nonpos_of_nonneg ed (Int.le_of_lt ob)
  have m2 := Int.mul_pos eb od
  rcases Int.lt_or_le (inc f t b d) 0 with k | k
  · exact k
  · have := Int.mul_nonneg k (Int.le_of_lt oa)
    omega
theorem inc_line {f t a d : Int × Int} (h : ori f t d = 0) : inc f t a d = - (ori f t a * ((d.1 - f.1) * (d.1 - t.1) + (d.2 - f.2) * (d.2 - t.2))) := by
  unfold ori at h
  unfold inc ori
  grind
/-- a site on the edge's line, not between its ends, is outside -/
theorem apex_line {f t a d : Int × Int} (oa : 0 < ori f t a) (h : ori f t d = 0) (hb : 0 ≤ (d.1 - f.1) * (d.1 - t.1) + (d.2 - f.2) * (d.2 - t.2)) : inc f t a d ≤ 0 := by
  rw [inc_line h]
  have := Int.mul_nonneg (Int.le_of_lt oa) hb
  omega
