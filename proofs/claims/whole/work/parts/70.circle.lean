/-! Circles: three points of one give it whole; four points of one turn alike; slopes. -/
theorem inc_form (a b c : Int × Int) : ∃ p q r : Int, ∀ d : Int × Int, inc a b c d = p * d.1 + q * d.2 + r - ori a b c * (d.1 * d.1 + d.2 * d.2) := by
  refine ⟨lp a b c + 2 * ori a b c * b.1, lq a b c + 2 * ori a b c * b.2, -(b.1 * lp a b c) - b.2 * lq a b c - ori a b c * (b.1 * b.1 + b.2 * b.2), fun d => ?_⟩
  rw [inc_lin']
  generalize lp a b c = p
  generalize lq a b c = q
  generalize ori a b c = o
  grind
theorem two_lin {A B u v s t : Int} (h1 : A * u + B * v = 0) (h2 : A * s + B * t = 0) (h0 : u * t - v * s ≠ 0) : A = 0 ∧ B = 0 := by
  have hA : A * (u * t - v * s) = 0 := by grind
  have hB : B * (u * t - v * s) = 0 := by grind
  exact ⟨(Int.mul_eq_zero.mp hA).resolve_right h0, (Int.mul_eq_zero.mp hB).resolve_right h0⟩
theorem sc_aux {p q r o p' q' r' o' x y : Int} (h1 : 0 = p * x + q * y + r - o * (x * x + y * y)) (h2 : 0 = p' * x + q' * y + r' - o' * (x * x + y * y)) : (p * o' - p' * o) * x + (q * o' - q' * o) * y + (r * o' - r' * o) = 0 := by
  have e1 : o' * (p * x + q * y + r - o * (x * x + y * y)) = 0 := by rw [← h1, Int.mul_zero]
  have e2 : o * (p' * x + q' * y + r' - o' * (x * x + y * y)) = 0 := by rw [← h2, Int.mul_zero]
  grind
theorem same_circle {a b c a' b' c' : Int × Int} (h0 : ori a' b' c' ≠ 0) (h1 : inc a b c a' = 0) (h2 : inc a b c b' = 0) (h3 : inc a b c c' = 0) (d : Int × Int) : inc a b c d * ori a' b' c' = inc a' b' c' d * ori a b c := by
  obtain ⟨p, q, r, e⟩ := inc_form a b c
  obtain ⟨p', q', r', e'⟩ := inc_form a' b' c'
  have k1 := sc_aux (h1.symm.trans (e a')) ((inc_a a' b' c').symm.trans (e' a'))
  have k2 := sc_aux (h2.symm.trans (e b')) ((inc_b a' b' c').symm.trans (e' b'))
  have k3 := sc_aux (h3.symm.trans (e c')) ((inc_c a' b' c').symm.trans (e' c'))
  rw [e d, e' d]
  generalize hA : p * ori a' b' c' - p' * ori a b c = A at k1 k2 k3
  generalize hB : q * ori a' b' c' - q' * ori a b c = B at k1 k2 k3
  generalize hC : r * ori a' b' c' - r' * ori a b c = C at k1 k2 k3
  obtain ⟨zA, zB⟩ := two_lin (A := A) (B := B) (u := b'.1 - a'.1) (v := b'.2 - a'.2) (s := c'.1 - a'.1) (t := c'.2 - a'.2) (by grind) (by grind) (by unfold ori at h0; exact h0)
  have zC : C = 0 := by rw [zA, zB] at k1; omega
  rw [zA] at hA
  rw [zB] at hB
  rw [zC] at hC
  generalize ori a' b' c' = o' at *
  generalize ori a b c = o at *
  have f1 : p * o' = p' * o := by omega
  have f2 : q * o' = q' * o := by omega
  have f3 : r * o' = r' * o := by omega
  grind
theorem cyc_id (o a b c : Int × Int) : ori a b c * ori o a c * ((b.1 - o.1) * (b.1 - o.1) + (b.2 - o.2) * (b.2 - o.2)) - ori o b c * ori o a b * ((a.1 - c.1) * (a.1 - c.1) + (a.2 - c.2) * (a.2 - c.2)) = -((ori o a b + ori o b c) * inc a b c o) := by
  unfold ori inc
  grind
theorem inc_cyc4 (a b c d : Int × Int) : inc b c d a = - inc a b c d := by unfold inc; grind
theorem cyc_pos {o a b c : Int × Int} (h1 : 0 < ori o a b) (h2 : 0 < ori o b c) (h3 : 0 < ori o a c) (h : inc o a b c = 0) : 0 < ori a b c := by
  have id := cyc_id o a b c
  rw [inc_cyc4, h, Int.neg_zero, Int.mul_zero, Int.neg_zero] at id
  have n1 : 0 ≤ (b.1 - o.1) * (b.1 - o.1) + (b.2 - o.2) * (b.2 - o.2) := by
    have := sqn (b.1 - o.1)
    have := sqn (b.2 - o.2)
    omega
  have n2 : 0 < (a.1 - c.1) * (a.1 - c.1) + (a.2 - c.2) * (a.2 - c.2) := by
    have s1 := sqn (a.1 - c.1)
    have s2 := sqn (a.2 - c.2)
    rcases Int.lt_or_le 0 ((a.1 - c.1) * (a.1 - c.1) + (a.2 - c.2) * (a.2 - c.2)) with k | k
    · exact k
    · exfalso
      obtain ⟨u, v⟩ := sq0 (x := a.1 - c.1) (y := a.2 - c.2) (by omega)
      have : a = c := Prod.ext (by omega) (by omega)
      rw [this, ori_abb] at h3
      omega
  generalize (b.1 - o.1) * (b.1 - o.1) + (b.2 - o.2) * (b.2 - o.2) = N1 at *
  generalize (a.1 - c.1) * (a.1 - c.1) + (a.2 - c.2) * (a.2 - c.2) = N2 at *
  have k1 := Int.mul_pos (Int.mul_pos h2 h1) n2
  rcases Int.lt_or_le 0 (ori a b c) with k | k
  · exact k
  · have k2 : ori a b c * ori o a c ≤ 0 := Int.mul_nonpos_of_nonpos_of_nonneg k (Int.le_of_lt h3)
    have k3 := Int.mul_nonpos_of_nonpos_of_nonneg k2 n1
    omega
/-- no three of a circle lie on a line -/
theorem circ_ne {f t a x y z : Int × Int} (h0 : ori f t a ≠ 0) (hx : inc f t a x = 0) (hy : inc f t a y = 0) (hz : inc f t a z = 0) (xy : x ≠ y) (xz : x ≠ z) (yz : y ≠ z) : ori x y z ≠ 0 := by
  intro h
  have key : ∀ g, inc f t a g = 0 → ori g y z ≠ 0 → False := by
    intro g hg ho
    have e := same_circle ho hg hy hz x
    rw [hx, Int.zero_mul] at e
    have e2 : inc g y z x = 0 := (Int.mul_eq_zero.mp e.symm).resolve_right h0
    exact xz (line_circle ho (by rw [ori_rot]; exact h) e2 xy)
  have g1 : ori f y z = 0 := Classical.byContradiction (fun q => key f (inc_a f t a) q)
  have g2 : ori t y z = 0 := Classical.byContradiction (fun q => key t (inc_b f t a) q)
  have g3 : ori a y z = 0 := Classical.byContradiction (fun q => key a (inc_c f t a) q)
  apply h0
  have hd : 0 < dtt (vec y z) (vec y z) := by
    rw [← ds_vec]
    unfold ds
    have s1 := sqn (y.1 - z.1)
    have s2 := sqn (y.2 - z.2)
    rcases Int.lt_or_le 0 ((y.1 - z.1) * (y.1 - z.1) + (y.2 - z.2) * (y.2 - z.2)) with k | k
    · exact k
    · exfalso
      obtain ⟨u, v⟩ := sq0 (x := y.1 - z.1) (y := y.2 - z.2) (by omega)
      exact yz (Prod.ext (by omega) (by omega))
  rw [ori_c1]
  refine crs_two hd ?_ ?_
  · have : crs (vec y z) (vec f t) = ori t y z - ori f y z := by unfold crs vec ori; grind
    rw [this, g1, g2]; rfl
  · have : crs (vec y z) (vec f a) = ori a y z - ori f y z := by unfold crs vec ori; grind
    rw [this, g1, g3]; rfl
/-- the lifted plane's slope, times the triangle's double area -/
def gx (a b c : Int × Int) : Int := inc a b c (1, 0) - inc a b c (0, 0) + ori a b c
theorem gx_step (f t a g : Int × Int) : gx t f g * ori f t a - gx f t a * ori t f g = - (inc t f g a * (t.2 - f.2)) := by
  have k1 := inc_pl f t a g (1, 0)
  have k0 := inc_pl f t a g (0, 0)
  have e1 : inc f t g (1, 0) = - inc t f g (1, 0) := inc_swap t f g _
  have e0 : inc f t g (0, 0) = - inc t f g (0, 0) := inc_swap t f g _
  have e2 : inc f t g a = - inc t f g a := inc_swap t f g a
  have e3 : ori f t g = - ori t f g := ori_swap t f g
  have o1 : ori f t (1, 0) - ori f t (0, 0) = -(t.2 - f.2) := by unfold ori; dsimp only; grind
  rw [e1, e2, e3] at k1
  rw [e0, e2, e3] at k0
  unfold gx
  generalize inc f t a (1, 0) = A1 at *
  generalize inc f t a (0, 0) = A0 at *
  generalize inc t f g (1, 0) = G1 at *
  generalize inc t f g (0, 0) = G0 at *
  generalize inc t f g a = K at *
  generalize ori t f g = og at *
  generalize ori f t a = oa at *
  generalize ori f t (1, 0) = u1 at *
  generalize ori f t (0, 0) = u0 at *
  have e5 : u1 = u0 - (t.2 - f.2) := by omega
  subst e5
  grind
theorem gx_same {a b c a' b' c' : Int × Int} (h : ∀ d, inc a b c d * ori a' b' c' = inc a' b' c' d * ori a b c) : gx a b c * ori a' b' c' = gx a' b' c' * ori a b c := by
  have h1 := h (1, 0)
  have h0 := h (0, 0)
  unfold gx
  grind
/-- slopes: cross multiplied, an order -/
theorem slope_tr {p1 o1 p2 o2 p3 o3 : Int} (h1 : 0 < o1) (h2 : 0 < o2) (h3 : 0 < o3) (k1 : p1 * o2 < p2 * o1) (k2 : p2 * o3 < p3 * o2) : p1 * o3 < p3 * o1 := by
  have a1 := Int.mul_lt_mul_of_pos_right k1 h3
  have a2 := Int.mul_lt_mul_of_pos_right k2 h1
  have e1 : p1 * o2 * o3 = o2 * (p1 * o3) := by grind
  have e2 : p2 * o1 * o3 = p2 * o3 * o1 := by grind
  have e3 : p3 * o2 * o1 = o2 * (p3 * o1) := by grind
  have a3 : o2 * (p1 * o3) < o2 * (p3 * o1) := by omega
  exact Int.lt_of_mul_lt_mul_left a3 (Int.le_of_lt h2)
theorem ex_max {α : Type} (r : α → α → Prop) (P : α → Prop) (hir : ∀ x, P x → ¬ r x x) (htr : ∀ x y z, P x → P y → P z → r x y → r y z → r x z) : ∀ l : List α, (∀ x ∈ l, P x) → l ≠ [] → ∃ m ∈ l, ∀ x ∈ l, ¬ r m x := by
  intro l
  induction l with
  | nil => intro _ h; exact absurd rfl h
  | cons a l ih =>
    intro hP _
    by_cases hl : l = []
    · subst hl
      refine ⟨a, by simp, fun x hx => ?_⟩
      have : x = a := by simpa using hx
      rw [this]
      exact hir a (hP a (by simp))
    · obtain ⟨m, hm, k⟩ := ih (fun x hx => hP x (List.mem_cons_of_mem _ hx)) hl
      by_cases q : r m a
      · refine ⟨a, by simp, fun x hx h => ?_⟩
        rcases List.mem_cons.mp hx with e | e
        · rw [e] at h; exact hir a (hP a (by simp)) h
        · exact k x e (htr m a x (hP m (List.mem_cons_of_mem _ hm)) (hP a (by simp)) (hP x hx) q h)
      · refine ⟨m, List.mem_cons_of_mem _ hm, fun x hx h => ?_⟩
        rcases List.mem_cons.mp hx with e | e
        · rw [e] at h; exact q h
        · exact k x e h
