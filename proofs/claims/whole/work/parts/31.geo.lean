/-! A triangle as the reference means it; two of them with the same middle corner, on the same side of it, are one: so there are at most two for each site. -/
def isT (S : Nat → Prop) (pt : Nat → Int × Int) (a b c : Nat) : Prop :=
  S a ∧ S b ∧ S c ∧ 0 < ori (pt a) (pt b) (pt c) ∧ lex (pt a) (pt b) ∧ lex (pt a) (pt c) ∧
  ∀ d, S d → d ≠ a → d ≠ b → d ≠ c → inc (pt a) (pt b) (pt c) (pt d) ≤ 0 ∧ (inc (pt a) (pt b) (pt c) (pt d) = 0 → ¬ lex (pt d) (pt a) ∧ 0 ≤ ori (pt b) (pt c) (pt d))
theorem inc_a (a b c : Int × Int) : inc a b c a = 0 := by unfold inc; grind
theorem inc_b (a b c : Int × Int) : inc a b c b = 0 := by unfold inc; grind
theorem inc_c (a b c : Int × Int) : inc a b c c = 0 := by unfold inc; grind
theorem lex_tri {a b : Int × Int} (h1 : ¬ lex a b) (h2 : ¬ lex b a) : a = b := by
  unfold lex at h1 h2
  apply Prod.ext <;> omega
theorem lex_asym {a b : Int × Int} (h1 : lex a b) : ¬ lex b a := by
  unfold lex at h1 ⊢
  omega
theorem lex_tr {a b c : Int × Int} (h1 : lex a b) (h2 : lex b c) : lex a c := by
  unfold lex at h1 h2 ⊢
  omega
theorem isT_empty {S : Nat → Prop} {pt : Nat → Int × Int} {a b c d : Nat} (h : isT S pt a b c) (hd : S d) : inc (pt a) (pt b) (pt c) (pt d) ≤ 0 := by
  by_cases h1 : d = a
  · rw [h1, inc_a]; exact Int.le_refl 0
  by_cases h2 : d = b
  · rw [h2, inc_b]; exact Int.le_refl 0
  by_cases h3 : d = c
  · rw [h3, inc_c]; exact Int.le_refl 0
  exact (h.2.2.2.2.2.2 d hd h1 h2 h3).1
theorem sqn (x : Int) : 0 ≤ x * x := by
  rcases Int.le_total 0 x with h | h
  · exact Int.mul_nonneg h h
  · exact Int.mul_nonneg_of_nonpos_of_nonpos h h
theorem sq0 {x y : Int} (h : x * x + y * y = 0) : x = 0 ∧ y = 0 := by
  have h1 := sqn x
  have h2 := sqn y
  have h3 : x * x = 0 := by omega
  have h4 : y * y = 0 := by omega
  exact ⟨by rcases Int.mul_eq_zero.mp h3 with h | h <;> exact h, by rcases Int.mul_eq_zero.mp h4 with h | h <;> exact h⟩
theorem lc_aux {ax ay cx' cy dx dy : Int} (h1 : cx' * dy - cy * dx = 0) (h2 : dx * ((cx' * cx' + cy * cy) * ay - (ax * ax + ay * ay) * cy) + dy * ((ax * ax + ay * ay) * cx' - (cx' * cx' + cy * cy) * ax) - (ay * cx' - ax * cy) * (dx * dx + dy * dy) = 0) : (ay * cx' - ax * cy) * ((cx' * dx + cy * dy) * (cx' * dx + cy * dy - (cx' * cx' + cy * cy))) = 0 := by grind
theorem lc_aux2 {cx' cy dx dy : Int} (h1 : cx' * dy - cy * dx = 0) : (cx' * cx' + cy * cy) * (dx * dx + dy * dy) = (cx' * dx + cy * dy) * (cx' * dx + cy * dy) := by grind
/-- three of a line lie on no circle -/
theorem line_circle {a b c d : Int × Int} (h0 : ori a b c ≠ 0) (h1 : ori b c d = 0) (h2 : inc a b c d = 0) (hbd : d ≠ b) : d = c := by
  obtain ⟨ax, ay⟩ := a
  obtain ⟨bx, by'⟩ := b
  obtain ⟨cx', cy⟩ := c
  obtain ⟨dx, dy⟩ := d
  rw [inc_lin] at h2
  unfold ori at h0 h1 h2
  dsimp only at h0 h1 h2
  have e0 : (bx - ax) * (cy - ay) - (by' - ay) * (cx' - ax) = (ay - by') * (cx' - bx) - (ax - bx) * (cy - by') := by grind
  rw [e0] at h0 h2
  have k := lc_aux (ax := ax - bx) (ay := ay - by') h1 h2
  have k2 := lc_aux2 h1
  rcases Int.mul_eq_zero.mp k with k | k
  · exact absurd k h0
  · have hcc : (cx' - bx) * (cx' - bx) + (cy - by') * (cy - by') ≠ 0 := by
      intro h
      obtain ⟨u, v⟩ := sq0 h
      apply h0
      rw [u, v]
      simp
    rcases Int.mul_eq_zero.mp k with k | k
    · rw [k] at k2
      rcases Int.mul_eq_zero.mp (k2.trans (Int.zero_mul 0)) with k3 | k3
      · exact absurd k3 hcc
      · obtain ⟨u, v⟩ := sq0 k3
        exact absurd (Prod.ext (by dsimp only; omega) (by dsimp only; omega)) hbd
    · have e1 : (cx' - bx) * (dx - bx) + (cy - by') * (dy - by') = (cx' - bx) * (cx' - bx) + (cy - by') * (cy - by') := by omega
      rw [e1] at k2
      have e2 : (dx - bx) * (dx - bx) + (dy - by') * (dy - by') = (cx' - bx) * (cx' - bx) + (cy - by') * (cy - by') := Int.eq_of_mul_eq_mul_left hcc k2
      have e3 : (dx - cx') * (dx - cx') + (dy - cy) * (dy - cy) = 0 := by grind
      obtain ⟨u, v⟩ := sq0 e3
      exact Prod.ext (by dsimp only; omega) (by dsimp only; omega)
/-- two linear forms' one: no line keeps apart two angles that both hold the upward ray -/
theorem sector {p q ax ay bx by' cx' cy dx dy : Int} (hA : ax < 0 ∨ ax = 0 ∧ ay < 0) (hB : 0 < bx ∨ bx = 0 ∧ 0 < by') (hC : cx' < 0 ∨ cx' = 0 ∧ cy < 0) (hD : 0 < dx ∨ dx = 0 ∧ 0 < dy) (h1 : ax * by' - ay * bx < 0) (h2 : cx' * dy - cy * dx < 0)
    (eA : p * ax + q * ay ≤ 0) (eB : p * bx + q * by' ≤ 0) (eC : 0 ≤ p * cx' + q * cy) (eD : 0 ≤ p * dx + q * dy) : p = 0 ∧ q = 0 := by
  have k1 := half_sector hA hB h1 eA eB
  have k2 := half_sector (p := -p) (q := -q) hC hD h2 (by rw [Int.neg_mul, Int.neg_mul]; omega) (by rw [Int.neg_mul, Int.neg_mul]; omega)
  omega
theorem sector_dn {p q ax ay bx by' cx' cy dx dy : Int} (hA : ax < 0 ∨ ax = 0 ∧ ay < 0) (hB : 0 < bx ∨ bx = 0 ∧ 0 < by') (hC : cx' < 0 ∨ cx' = 0 ∧ cy < 0) (hD : 0 < dx ∨ dx = 0 ∧ 0 < dy) (h1 : 0 < ax * by' - ay * bx) (h2 : 0 < cx' * dy - cy * dx)
    (eA : p * ax + q * ay ≤ 0) (eB : p * bx + q * by' ≤ 0) (eC : 0 ≤ p * cx' + q * cy) (eD : 0 ≤ p * dx + q * dy) : p = 0 ∧ q = 0 := by
  have k := sector (p := -p) (q := -q) (ax := -bx) (ay := -by') (bx := -ax) (by' := -ay) (cx' := -dx) (cy := -dy) (dx := -cx') (dy := -cy) (by omega) (by omega) (by omega) (by omega) (by grind) (by grind) (by grind) (by grind) (by grind) (by grind)
  omega
def lp (a b c : Int × Int) : Int := ((c.1 - b.1) * (c.1 - b.1) + (c.2 - b.2) * (c.2 - b.2)) * (a.2 - b.2) - ((a.1 - b.1) * (a.1 - b.1) + (a.2 - b.2) * (a.2 - b.2)) * (c.2 - b.2)
def lq (a b c : Int × Int) : Int := ((a.1 - b.1) * (a.1 - b.1) + (a.2 - b.2) * (a.2 - b.2)) * (c.1 - b.1) - ((c.1 - b.1) * (c.1 - b.1) + (c.2 - b.2) * (c.2 - b.2)) * (a.1 - b.1)
theorem inc_lin' (a b c d : Int × Int) : inc a b c d = (d.1 - b.1) * lp a b c + (d.2 - b.2) * lq a b c - ori a b c * ((d.1 - b.1) * (d.1 - b.1) + (d.2 - b.2) * (d.2 - b.2)) := inc_lin a b c d
theorem lin_two (a1 b c1 a2 c2 d : Int × Int) : inc a2 b c2 d * ori a1 b c1 - inc a1 b c1 d * ori a2 b c2 = (lp a2 b c2 * ori a1 b c1 - lp a1 b c1 * ori a2 b c2) * (d.1 - b.1) + (lq a2 b c2 * ori a1 b c1 - lq a1 b c1 * ori a2 b c2) * (d.2 - b.2) := by
  rw [inc_lin' a2 b c2 d, inc_lin' a1 b c1 d]
  generalize lp a2 b c2 = p2
  generalize lp a1 b c1 = p1
  generalize lq a2 b c2 = q2
  generalize lq a1 b c1 = q1
  generalize ori a1 b c1 = o1
  generalize ori a2 b c2 = o2
  grind
/-- two empty circles with a common corner whose angles there both hold the upward (or both the downward) ray are one -/
theorem one_circle {a1 v c1 a2 c2 : Int × Int} (o1 : 0 < ori a1 v c1) (o2 : 0 < ori a2 v c2) (hl : (lex a1 v ∧ lex v c1 ∧ lex a2 v ∧ lex v c2) ∨ (lex c1 v ∧ lex v a1 ∧ lex c2 v ∧ lex v a2))
    (e1 : inc a2 v c2 a1 ≤ 0) (e2 : inc a2 v c2 c1 ≤ 0) (e3 : inc a1 v c1 a2 ≤ 0) (e4 : inc a1 v c1 c2 ≤ 0) (d : Int × Int) : inc a2 v c2 d * ori a1 v c1 = inc a1 v c1 d * ori a2 v c2 := by
  have lin := lin_two a1 v c1 a2 c2
  generalize hp : lp a2 v c2 * ori a1 v c1 - lp a1 v c1 * ori a2 v c2 = p at lin
  generalize hq : lq a2 v c2 * ori a1 v c1 - lq a1 v c1 * ori a2 v c2 = q at lin
  have k1 : p * (a1.1 - v.1) + q * (a1.2 - v.2) ≤ 0 := by
    rw [← lin a1, inc_a]
    have := Int.mul_nonpos_of_nonpos_of_nonneg e1 (Int.le_of_lt o1)
    omega
  have k2 : p * (c1.1 - v.1) + q * (c1.2 - v.2) ≤ 0 := by
    rw [← lin c1, inc_c]
    have := Int.mul_nonpos_of_nonpos_of_nonneg e2 (Int.le_of_lt o1)
    omega
  have k3 : 0 ≤ p * (a2.1 - v.1) + q * (a2.2 - v.2) := by
    rw [← lin a2, inc_a]
    have := Int.mul_nonpos_of_nonpos_of_nonneg e3 (Int.le_of_lt o2)
    omega
  have k4 : 0 ≤ p * (c2.1 - v.1) + q * (c2.2 - v.2) := by
    rw [← lin c2, inc_c]
    have := Int.mul_nonpos_of_nonpos_of_nonneg e4 (Int.le_of_lt o2)
    omega
  have z : p = 0 ∧ q = 0 := by
    rcases hl with ⟨l1, l2, l3, l4⟩ | ⟨l1, l2, l3, l4⟩
    · refine sector (ax := a1.1 - v.1) (ay := a1.2 - v.2) (bx := c1.1 - v.1) (by' := c1.2 - v.2) (cx' := a2.1 - v.1) (cy := a2.2 - v.2) (dx := c2.1 - v.1) (dy := c2.2 - v.2) (by unfold lex at l1; omega) (by unfold lex at l2; omega) (by unfold lex at l3; omega) (by unfold lex at l4; omega) ?_ ?_ k1 k2 k3 k4
      · have : (a1.1 - v.1) * (c1.2 - v.2) - (a1.2 - v.2) * (c1.1 - v.1) = - ori a1 v c1 := by unfold ori; grind
        omega
      · have : (a2.1 - v.1) * (c2.2 - v.2) - (a2.2 - v.2) * (c2.1 - v.1) = - ori a2 v c2 := by unfold ori; grind
        omega
    · refine sector_dn (ax := c1.1 - v.1) (ay := c1.2 - v.2) (bx := a1.1 - v.1) (by' := a1.2 - v.2) (cx' := c2.1 - v.1) (cy := c2.2 - v.2) (dx := a2.1 - v.1) (dy := a2.2 - v.2) (by unfold lex at l1; omega) (by unfold lex at l2; omega) (by unfold lex at l3; omega) (by unfold lex at l4; omega) ?_ ?_ k2 k1 k4 k3
      · have : (c1.1 - v.1) * (a1.2 - v.2) - (c1.2 - v.2) * (a1.1 - v.1) = ori a1 v c1 := by unfold ori; grind
        omega
      · have : (c2.1 - v.1) * (a2.2 - v.2) - (c2.2 - v.2) * (a2.1 - v.1) = ori a2 v c2 := by unfold ori; grind
        omega
  have h := lin d
  rw [z.1, z.2] at h
  omega
