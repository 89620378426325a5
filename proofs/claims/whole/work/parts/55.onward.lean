/-! The reference's way on: from a corner to the next one. -/
def dtt (u w : Int × Int) : Int := u.1 * w.1 + u.2 * w.2
theorem par1 {u w : Int × Int} (h : crs u w = 0) : dtt u u * w.1 = dtt u w * u.1 ∧ dtt u u * w.2 = dtt u w * u.2 := by
  unfold crs at h
  unfold dtt
  constructor <;> grind
theorem par2 {u w : Int × Int} (h : crs u w = 0) : dtt u w * dtt u w = dtt u u * dtt w w := by
  unfold crs at h
  unfold dtt
  grind
theorem par3 {u w : Int × Int} (z : Int × Int) (h : crs u w = 0) : dtt u u * crs w z = dtt u w * crs u z := by
  unfold crs at h
  unfold dtt crs
  grind
theorem dtt_pos {u : Int × Int} (h : lpos u) : 0 < dtt u u := by
  unfold dtt
  have a := sqn u.1
  have b := sqn u.2
  rcases h with h | ⟨_, h⟩
  · have := Int.mul_pos h h
    omega
  · have := Int.mul_pos h h
    omega
theorem par_lpos {u w : Int × Int} (h : crs u w = 0) (hp : 0 < dtt u w) (hu : lpos u) : lpos w := by
  obtain ⟨e1, e2⟩ := par1 h
  have d := dtt_pos hu
  rcases hu with k | ⟨k, k2⟩
  · left
    have := Int.mul_pos hp k
    exact pos_of_mul d (by rw [e1]; exact this)
  · right
    rw [k, Int.mul_zero] at e1
    have h1 : w.1 = 0 := (Int.mul_eq_zero.mp e1).resolve_left (by omega)
    have := Int.mul_pos hp k2
    exact ⟨h1, pos_of_mul d (by rw [e2]; exact this)⟩
theorem neg_lpos_dtt {u : Int × Int} : dtt (-u.1, -u.2) (-u.1, -u.2) = dtt u u := by unfold dtt; grind
/-- of two that go on along the same line, the one that isn't behind the other is nearer -/
theorem nearer {u w : Int × Int} (h : crs u w = 0) (hp : 0 < dtt u w) (hu : lpos u) (hle : dtt w w ≤ dtt u u) (hne : w ≠ u) : lpos (u.1 - w.1, u.2 - w.2) := by
  have d := dtt_pos hu
  have sq := par2 h
  have hwle : dtt u w ≤ dtt u u := by
    rcases Int.lt_or_le (dtt u u) (dtt u w) with k | k
    · have a1 := Int.mul_lt_mul_of_pos_left k hp
      have a2 := Int.mul_lt_mul_of_pos_right k d
      have a3 := Int.mul_le_mul_of_nonneg_left hle (Int.le_of_lt d)
      have e : dtt u w * dtt u u = dtt u u * dtt u w := Int.mul_comm _ _
      omega
    · exact k
  have hlt : dtt u w < dtt u u := by
    rcases Int.lt_or_eq_of_le hwle with k | k
    · exact k
    · exfalso
      rw [k] at sq
      have e1 : dtt u u = dtt w w := Int.eq_of_mul_eq_mul_left (by omega) sq
      have e2 : (w.1 - u.1) * (w.1 - u.1) + (w.2 - u.2) * (w.2 - u.2) = 0 := by
        unfold dtt at k e1
        grind
      obtain ⟨a, b⟩ := sq0 e2
      exact hne (Prod.ext (by omega) (by omega))
  refine par_lpos (u := u) ?_ ?_ hu
  · unfold crs at h ⊢
    dsimp only
    grind
  · have e : dtt u (u.1 - w.1, u.2 - w.2) = dtt u u - dtt u w := by
      unfold dtt
      dsimp only
      grind
    rw [e]
    omega
theorem vec_inj {p q b : Int × Int} (h : vec p q = vec p b) : q = b := by
  unfold vec at h
  have h1 := congrArg Prod.fst h
  have h2 := congrArg Prod.snd h
  dsimp only at h1 h2
  exact Prod.ext (by omega) (by omega)
theorem lex_of_lpos {a b : Int × Int} (h : lpos (vec a b)) : lex a b := by
  unfold lpos vec at h
  dsimp only at h
  unfold lex
  omega
/-- the square of the distance -/
def ds (a b : Int × Int) : Int := (a.1 - b.1) * (a.1 - b.1) + (a.2 - b.2) * (a.2 - b.2)
theorem ds_vec (a b : Int × Int) : ds a b = dtt (vec a b) (vec a b) := by unfold ds dtt vec; grind
theorem nx_near {pt : Nat → Int × Int} {pr : Nat → Prop} {p b q r : Nat} (hN : Nx pt pr p b) (pb : pr b) (pq : pr q) (hr : pr r) (hnf : ori (pt p) (pt b) (pt r) ≠ 0) (hg : ∀ z, pr z → 0 ≤ ori (pt p) (pt q) (pt z)) (hqp : pt q ≠ pt p) (hqb : pt q ≠ pt b) : ds (pt p) (pt b) < ds (pt p) (pt q) := by
  obtain ⟨h1, h2, h3⟩ := hN
  have z1 : crs (vec (pt p) (pt b)) (vec (pt p) (pt q)) = 0 := by
    have a := h2 q pq
    have c := hg b pb
    rw [ori_sw2] at c
    rw [← ori_c1]
    omega
  have pos : 0 < dtt (vec (pt p) (pt b)) (vec (pt p) (pt q)) := by
    have e := par3 (vec (pt p) (pt r)) z1
    have a := h2 r hr
    have c := hg r hr
    rw [ori_c1] at a c hnf
    have d : 0 < dtt (vec (pt p) (pt b)) (vec (pt p) (pt b)) := by
      rcases h1 with k | k
      · exact dtt_pos (lpos_vec k)
      · have := dtt_pos (lpos_vec k)
        have e2 : dtt (vec (pt b) (pt p)) (vec (pt b) (pt p)) = dtt (vec (pt p) (pt b)) (vec (pt p) (pt b)) := by unfold dtt vec; grind
        omega
    have nn := Int.mul_nonneg (Int.le_of_lt d) c
    rw [e] at nn
    have ge : 0 ≤ dtt (vec (pt p) (pt b)) (vec (pt p) (pt q)) := by
      rcases Int.lt_or_le (dtt (vec (pt p) (pt b)) (vec (pt p) (pt q))) 0 with k | k
      · have := Int.mul_neg_of_neg_of_pos k (show 0 < crs (vec (pt p) (pt b)) (vec (pt p) (pt r)) by omega)
        omega
      · exact k
    rcases Int.lt_or_eq_of_le ge with k | k
    · exact k
    · exfalso
      have s := par2 z1
      rw [← k, Int.zero_mul] at s
      rcases Int.mul_eq_zero.mp s.symm with q1 | q1
      · omega
      · unfold dtt at q1
        obtain ⟨a1, a2⟩ := sq0 q1
        unfold vec at a1 a2
        dsimp only at a1 a2
        exact hqp (Prod.ext (by omega) (by omega))
  rw [ds_vec, ds_vec]
  rcases Int.lt_or_le (dtt (vec (pt p) (pt b)) (vec (pt p) (pt b))) (dtt (vec (pt p) (pt q)) (vec (pt p) (pt q))) with k | k
  · exact k
  · exfalso
    have hne : vec (pt p) (pt q) ≠ vec (pt p) (pt b) := fun h => hqb (vec_inj h)
    have zero : ori (pt p) (pt b) (pt q) = 0 := by rw [ori_c1]; exact z1
    rcases h1 with l | l
    · have n1 := nearer z1 pos (lpos_vec l) k hne
      have n2 := par_lpos z1 pos (lpos_vec l)
      have := h3 q pq (Or.inl ⟨lex_of_lpos n2, lex_of_lpos (by
        have e : vec (pt q) (pt b) = ((vec (pt p) (pt b)).1 - (vec (pt p) (pt q)).1, (vec (pt p) (pt b)).2 - (vec (pt p) (pt q)).2) := by unfold vec; exact Prod.ext (by dsimp only; omega) (by dsimp only; omega)
        rw [e]; exact n1)⟩)
      omega
    · have z2 : crs (vec (pt b) (pt p)) (vec (pt q) (pt p)) = 0 := by
        have : crs (vec (pt b) (pt p)) (vec (pt q) (pt p)) = crs (vec (pt p) (pt b)) (vec (pt p) (pt q)) := by unfold crs vec; grind
        rw [this]; exact z1
      have p2 : 0 < dtt (vec (pt b) (pt p)) (vec (pt q) (pt p)) := by
        have : dtt (vec (pt b) (pt p)) (vec (pt q) (pt p)) = dtt (vec (pt p) (pt b)) (vec (pt p) (pt q)) := by unfold dtt vec; grind
        rw [this]; exact pos
      have k2 : dtt (vec (pt q) (pt p)) (vec (pt q) (pt p)) ≤ dtt (vec (pt b) (pt p)) (vec (pt b) (pt p)) := by
        have e1 : dtt (vec (pt q) (pt p)) (vec (pt q) (pt p)) = dtt (vec (pt p) (pt q)) (vec (pt p) (pt q)) := by unfold dtt vec; grind
        have e2 : dtt (vec (pt b) (pt p)) (vec (pt b) (pt p)) = dtt (vec (pt p) (pt b)) (vec (pt p) (pt b)) := by unfold dtt vec; grind
        omega
      have hne2 : vec (pt q) (pt p) ≠ vec (pt b) (pt p) := fun h => by
        unfold vec at h
        have a1 := congrArg Prod.fst h
        have a2 := congrArg Prod.snd h
        dsimp only at a1 a2
        exact hqb (Prod.ext (by omega) (by omega))
      have n1 := nearer z2 p2 (lpos_vec l) k2 hne2
      have n2 := par_lpos z2 p2 (lpos_vec l)
      have := h3 q pq (Or.inr ⟨lex_of_lpos (by
        have e : vec (pt b) (pt q) = ((vec (pt b) (pt p)).1 - (vec (pt q) (pt p)).1, (vec (pt b) (pt p)).2 - (vec (pt q) (pt p)).2) := by unfold vec; exact Prod.ext (by dsimp only; omega) (by dsimp only; omega)
        rw [e]; exact n1), lex_of_lpos n2⟩)
      omega
