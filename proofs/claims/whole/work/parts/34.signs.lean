/-! The two sign computations. -/
theorem l_or15 {a b : Int64} {x y : Int} (ha : a.toInt = x) (hb : b.toInt = y) : ∃ w : Int, ((a ||| b) &&& 32767).toInt = w ∧ 0 ≤ w ∧ (w = 0 ↔ x % 32768 = 0 ∧ y % 32768 = 0) := by
  subst ha hb
  have h1 : ((a ||| b) &&& 32767).toBitVec.toNat = a.toBitVec.toNat % 2 ^ 15 ||| b.toBitVec.toNat % 2 ^ 15 := by
    rw [Int64.toBitVec_and, BitVec.toNat_and, Int64.toBitVec_or, BitVec.toNat_or, ← Nat.or_mod_two_pow]
    exact Nat.and_two_pow_sub_one_eq_mod _ 15
  have h2 : ((a ||| b) &&& 32767).toBitVec.toNat < 32768 := by
    rw [Int64.toBitVec_and, BitVec.toNat_and]
    exact Nat.lt_of_le_of_lt Nat.and_le_right (by decide)
  refine ⟨(((a ||| b) &&& 32767).toBitVec.toNat : Int), ?_, Int.natCast_nonneg _, ?_⟩
  · rcases l_nat ((a ||| b) &&& 32767) with ⟨e, -⟩ | ⟨-, e, -⟩
    · exact e
    · omega
  · rw [h1]
    have e : ((a.toBitVec.toNat % 2 ^ 15 ||| b.toBitVec.toNat % 2 ^ 15 : Nat) : Int) = 0 ↔ (a.toBitVec.toNat % 2 ^ 15 = 0 ∧ b.toBitVec.toNat % 2 ^ 15 = 0) := by
      rw [← Nat.or_eq_zero_iff]; omega
    rw [e]
    rcases l_nat a with ⟨e1, -⟩ | ⟨e1, -, -⟩ <;> rcases l_nat b with ⟨e2, -⟩ | ⟨e2, -, -⟩ <;> rw [e1, e2] <;> omega
set_option maxHeartbeats 4000000 in
theorem s_sop {x0 x2 x4 x6 x8 x10 : Int64} {p q r s t u : Int} (h0 : x0.toInt = p) (h2 : x2.toInt = q) (h4 : x4.toInt = r) (h6 : x6.toInt = s) (h8 : x8.toInt = t) (h10 : x10.toInt = u)
    (bp : 0 ≤ p ∧ p ≤ 8000000000000) (bq : -8000000000000 ≤ q ∧ q ≤ 8000000000000) (br : 0 ≤ r ∧ r ≤ 8000000000000) (bs : -8000000000000 ≤ s ∧ s ≤ 8000000000000) (bt : 0 ≤ t ∧ t ≤ 8000000000000) (bu : -8000000000000 ≤ u ∧ u ≤ 8000000000000) :
    f_P_signOfProducts x0 x2 x4 x6 x8 x10 = some (sg (p * q + r * s + t * u)) := by
  have dg := digits15 p q r s t u
  have m1 := mulb (x := p % 32768) (y := q) (X := 32768) (Y := 8000000000000) (by omega) (by omega) bq.1 bq.2
  have m2 := mulb (x := r % 32768) (y := s) (X := 32768) (Y := 8000000000000) (by omega) (by omega) bs.1 bs.2
  have m3 := mulb (x := t % 32768) (y := u) (X := 32768) (Y := 8000000000000) (by omega) (by omega) bu.1 bu.2
  have m4 := mulb (x := p / 32768 % 32768) (y := q) (X := 32768) (Y := 8000000000000) (by omega) (by omega) bq.1 bq.2
  have m5 := mulb (x := r / 32768 % 32768) (y := s) (X := 32768) (Y := 8000000000000) (by omega) (by omega) bs.1 bs.2
  have m6 := mulb (x := t / 32768 % 32768) (y := u) (X := 32768) (Y := 8000000000000) (by omega) (by omega) bu.1 bu.2
  have m7 := mulb (x := p / 32768 / 32768) (y := q) (X := 32768) (Y := 8000000000000) (by omega) (by omega) bq.1 bq.2
  have m8 := mulb (x := r / 32768 / 32768) (y := s) (X := 32768) (Y := 8000000000000) (by omega) (by omega) bs.1 bs.2
  have m9 := mulb (x := t / 32768 / 32768) (y := u) (X := 32768) (Y := 8000000000000) (by omega) (by omega) bu.1 bu.2
  have lo := l_add (l_add (l_mul (l_and15 h0) h2 (by omega) (by omega)) (l_mul (l_and15 h4) h6 (by omega) (by omega)) (by omega) (by omega)) (l_mul (l_and15 h8) h10 (by omega) (by omega)) (by omega) (by omega)
  have mi := l_add (l_add (l_add (l_mul (l_and15 (l_shr15 h0)) h2 (by omega) (by omega)) (l_mul (l_and15 (l_shr15 h4)) h6 (by omega) (by omega)) (by omega) (by omega)) (l_mul (l_and15 (l_shr15 h8)) h10 (by omega) (by omega)) (by omega) (by omega)) (l_shr15 lo) (by omega) (by omega)
  have hi := l_add (l_add (l_add (l_mul (l_shr15 (l_shr15 h0)) h2 (by omega) (by omega)) (l_mul (l_shr15 (l_shr15 h4)) h6 (by omega) (by omega)) (by omega) (by omega)) (l_mul (l_shr15 (l_shr15 h8)) h10 (by omega) (by omega)) (by omega) (by omega)) (l_shr15 mi) (by omega) (by omega)
  obtain ⟨w, ow, w0, wz⟩ := l_or15 mi lo
  unfold f_P_signOfProducts
  rw [s_F_sign ow, s_F_sign hi]
  generalize (p / 32768 / 32768) * q + (r / 32768 / 32768) * s + (t / 32768 / 32768) * u + ((p / 32768 % 32768) * q + (r / 32768 % 32768) * s + (t / 32768 % 32768) * u + ((p % 32768) * q + (r % 32768) * s + (t % 32768) * u) / 32768) / 32768 = hh at *
  generalize (p / 32768 % 32768) * q + (r / 32768 % 32768) * s + (t / 32768 % 32768) * u + ((p % 32768) * q + (r % 32768) * s + (t % 32768) * u) / 32768 = mm at *
  generalize (p % 32768) * q + (r % 32768) * s + (t % 32768) * u = ll at *
  rw [dg]
  rcases Int.lt_trichotomy hh 0 with k | k | k
  · rw [cmp0_neg (by rw [hi]; exact k), if_neg (by decide), sg_neg k, sg_neg (by omega)]; rfl
  · rw [cmp0_zero (by rw [hi]; exact k), if_pos rfl]
    rcases Int.lt_or_eq_of_le w0 with k2 | k2
    · have : ¬ (mm % 32768 = 0 ∧ ll % 32768 = 0) := fun h => by have := wz.mpr h; omega
      rw [sg_pos k2, sg_pos (by omega)]; rfl
    · have := wz.mp k2.symm
      rw [← k2, this.1, this.2, k]; rfl
  · rw [cmp0_pos (by rw [hi]; exact k), if_neg (by decide), sg_pos k, sg_pos (by omega)]; rfl
theorem digits22 (a b c d e f : Int) : a * b + c * d + e * f = 17592186044416 * ((a / 4194304) * (b / 4194304) + (c / 4194304) * (d / 4194304) + (e / 4194304) * (f / 4194304)
      + ((a / 4194304) * (b % 4194304) + (a % 4194304) * (b / 4194304) + (c / 4194304) * (d % 4194304) + (c % 4194304) * (d / 4194304) + (e / 4194304) * (f % 4194304) + (e % 4194304) * (f / 4194304) + ((a % 4194304) * (b % 4194304) + (c % 4194304) * (d % 4194304) + (e % 4194304) * (f % 4194304)) / 4194304) / 4194304)
    + 4194304 * (((a / 4194304) * (b % 4194304) + (a % 4194304) * (b / 4194304) + (c / 4194304) * (d % 4194304) + (c % 4194304) * (d / 4194304) + (e / 4194304) * (f % 4194304) + (e % 4194304) * (f / 4194304) + ((a % 4194304) * (b % 4194304) + (c % 4194304) * (d % 4194304) + (e % 4194304) * (f % 4194304)) / 4194304) % 4194304)
    + ((a % 4194304) * (b % 4194304) + (c % 4194304) * (d % 4194304) + (e % 4194304) * (f % 4194304)) % 4194304 := by
  have ea := Int.emod_add_mul_ediv a 4194304
  have eb := Int.emod_add_mul_ediv b 4194304
  have ec := Int.emod_add_mul_ediv c 4194304
  have ed := Int.emod_add_mul_ediv d 4194304
  have ee := Int.emod_add_mul_ediv e 4194304
  have ef := Int.emod_add_mul_ediv f 4194304
  generalize a % 4194304 = a0 at *
  generalize a / 4194304 = a1 at *
  generalize b % 4194304 = b0 at *
  generalize b / 4194304 = b1 at *
  generalize c % 4194304 = c0 at *
  generalize c / 4194304 = c1 at *
  generalize d % 4194304 = d0 at *
  generalize d / 4194304 = d1 at *
  generalize e % 4194304 = e0 at *
  generalize e / 4194304 = e1 at *
  generalize f % 4194304 = f0 at *
  generalize f / 4194304 = f1 at *
  have el := Int.emod_add_mul_ediv (a0 * b0 + c0 * d0 + e0 * f0) 4194304
  generalize (a0 * b0 + c0 * d0 + e0 * f0) % 4194304 = l0 at *
  generalize (a0 * b0 + c0 * d0 + e0 * f0) / 4194304 = l1 at *
  have em := Int.emod_add_mul_ediv (a1 * b0 + a0 * b1 + c1 * d0 + c0 * d1 + e1 * f0 + e0 * f1 + l1) 4194304
  generalize (a1 * b0 + a0 * b1 + c1 * d0 + c0 * d1 + e1 * f0 + e0 * f1 + l1) % 4194304 = m0 at *
  generalize (a1 * b0 + a0 * b1 + c1 * d0 + c0 * d1 + e1 * f0 + e0 * f1 + l1) / 4194304 = m1 at *
  rw [← ea, ← eb, ← ec, ← ed, ← ee, ← ef]
  grind
theorem s_b192 {x : Int64} {z : Int} (h : x.toInt = z) (b : Int32) : f_N_sign_b192 x b = some (if 0 < z then 1 else if z < 0 then -1 else if b = 0 then 0 else 1) := by
  subst h
  unfold f_N_sign_b192
  rcases Int.lt_trichotomy x.toInt 0 with h | h | h
  · rw [cmp0_neg h, if_neg (by decide), if_neg (by omega), if_pos h]
  · rw [cmp0_zero h, h]
    by_cases hb : b = 0
    · subst hb; rfl
    · rw [if_pos (by decide), if_neg (by decide), if_neg hb, if_neg (by decide), if_neg (by decide), if_neg hb]
  · rw [cmp0_pos h, if_pos (by decide), if_pos (by decide), if_pos h]
set_option maxHeartbeats 4000000 in
theorem s_Nsign {x0 x2 x4 x6 x8 x10 : Int64} {a b c d e f : Int} (h0 : x0.toInt = a) (h2 : x2.toInt = b) (h4 : x4.toInt = c) (h6 : x6.toInt = d) (h8 : x8.toInt = e) (h10 : x10.toInt = f)
    (ba : 0 ≤ a ∧ a ≤ 8000000000000) (bb : -8000000000000 ≤ b ∧ b ≤ 8000000000000) (bc : 0 ≤ c ∧ c ≤ 8000000000000) (bd : -8000000000000 ≤ d ∧ d ≤ 8000000000000) (be : 0 ≤ e ∧ e ≤ 8000000000000) (bf : -8000000000000 ≤ f ∧ f ≤ 8000000000000) :
    f_N_sign x0 x2 x4 x6 x8 x10 = some (sg (a * b + c * d + e * f)) := by
  have dg := digits22 a b c d e f
  have p1 := mulb (x := a % 4194304) (y := b % 4194304) (X := 4194304) (Y := 4194304) (by omega) (by omega) (by omega) (by omega)
  have p2 := mulb (x := c % 4194304) (y := d % 4194304) (X := 4194304) (Y := 4194304) (by omega) (by omega) (by omega) (by omega)
  have p3 := mulb (x := e % 4194304) (y := f % 4194304) (X := 4194304) (Y := 4194304) (by omega) (by omega) (by omega) (by omega)
  have p4 := mulb (x := a / 4194304) (y := b % 4194304) (X := 4194304) (Y := 4194304) (by omega) (by omega) (by omega) (by omega)
  have p5 := mulb (x := a % 4194304) (y := b / 4194304) (X := 4194304) (Y := 4194304) (by omega) (by omega) (by omega) (by omega)
  have p6 := mulb (x := c / 4194304) (y := d % 4194304) (X := 4194304) (Y := 4194304) (by omega) (by omega) (by omega) (by omega)
  have p7 := mulb (x := c % 4194304) (y := d / 4194304) (X := 4194304) (Y := 4194304) (by omega) (by omega) (by omega) (by omega)
  have p8 := mulb (x := e / 4194304) (y := f % 4194304) (X := 4194304) (Y := 4194304) (by omega) (by omega) (by omega) (by omega)
  have p9 := mulb (x := e % 4194304) (y := f / 4194304) (X := 4194304) (Y := 4194304) (by omega) (by omega) (by omega) (by omega)
  have q1 := mulb (x := a / 4194304) (y := b / 4194304) (X := 4194304) (Y := 4194304) (by omega) (by omega) (by omega) (by omega)
  have q2 := mulb (x := c / 4194304) (y := d / 4194304) (X := 4194304) (Y := 4194304) (by omega) (by omega) (by omega) (by omega)
  have q3 := mulb (x := e / 4194304) (y := f / 4194304) (X := 4194304) (Y := 4194304) (by omega) (by omega) (by omega) (by omega)
  have lo := l_add (l_add (l_mul (l_and22 h0) (l_and22 h2) (by omega) (by omega)) (l_mul (l_and22 h4) (l_and22 h6) (by omega) (by omega)) (by omega) (by omega)) (l_mul (l_and22 h8) (l_and22 h10) (by omega) (by omega)) (by omega) (by omega)
  have mi := l_add (l_add (l_add (l_add (l_add (l_add (l_mul (l_shr22 h0) (l_and22 h2) (by omega) (by omega)) (l_mul (l_and22 h0) (l_shr22 h2) (by omega) (by omega)) (by omega) (by omega)) (l_mul (l_shr22 h4) (l_and22 h6) (by omega) (by omega)) (by omega) (by omega)) (l_mul (l_and22 h4) (l_shr22 h6) (by omega) (by omega)) (by omega) (by omega)) (l_mul (l_shr22 h8) (l_and22 h10) (by omega) (by omega)) (by omega) (by omega)) (l_mul (l_and22 h8) (l_shr22 h10) (by omega) (by omega)) (by omega) (by omega)) (l_shr22 lo) (by omega) (by omega)
  have hi := l_add (l_add (l_add (l_mul (l_shr22 h0) (l_shr22 h2) (by omega) (by omega)) (l_mul (l_shr22 h4) (l_shr22 h6) (by omega) (by omega)) (by omega) (by omega)) (l_mul (l_shr22 h8) (l_shr22 h10) (by omega) (by omega)) (by omega) (by omega)) (l_shr22 mi) (by omega) (by omega)
  have lo2 := l_and22 lo
  have mi2 := l_and22 mi
  unfold f_N_sign f_N_low
  dsimp only [Option.bind]
  rw [s_b192 hi, s_b192 hi]
  generalize (a / 4194304) * (b / 4194304) + (c / 4194304) * (d / 4194304) + (e / 4194304) * (f / 4194304)
      + ((a / 4194304) * (b % 4194304) + (a % 4194304) * (b / 4194304) + (c / 4194304) * (d % 4194304) + (c % 4194304) * (d / 4194304) + (e / 4194304) * (f % 4194304) + (e % 4194304) * (f / 4194304) + ((a % 4194304) * (b % 4194304) + (c % 4194304) * (d % 4194304) + (e % 4194304) * (f % 4194304)) / 4194304) / 4194304 = hh at *
  generalize (a / 4194304) * (b % 4194304) + (a % 4194304) * (b / 4194304) + (c / 4194304) * (d % 4194304) + (c % 4194304) * (d / 4194304) + (e / 4194304) * (f % 4194304) + (e % 4194304) * (f / 4194304) + ((a % 4194304) * (b % 4194304) + (c % 4194304) * (d % 4194304) + (e % 4194304) * (f % 4194304)) / 4194304 = mm at *
  generalize (a % 4194304) * (b % 4194304) + (c % 4194304) * (d % 4194304) + (e % 4194304) * (f % 4194304) = ll at *
  rw [dg]
  by_cases kl : ll % 4194304 = 0
  · rw [cmp0_zero (by rw [lo2]; exact kl), if_pos rfl]
    by_cases km : mm % 4194304 = 0
    · rw [cmp0_zero (by rw [mi2]; exact km), if_pos rfl, kl, km]
      rcases Int.lt_trichotomy hh 0 with k | k | k
      · rw [if_neg (by omega), if_pos k, sg_neg (by omega)]
      · rw [k]; rfl
      · rw [if_pos k, sg_pos (by omega)]
    · rw [cmp0_pos (by rw [mi2]; omega), if_neg (by decide)]
      rcases Int.lt_trichotomy hh 0 with k | k | k
      · rw [if_neg (by omega), if_pos k, sg_neg (by omega)]
      · rw [if_neg (by omega), if_neg (by omega), if_neg (by decide), sg_pos (by omega)]
      · rw [if_pos k, sg_pos (by omega)]
  · rw [cmp0_pos (by rw [lo2]; omega), if_neg (by decide)]
    rcases Int.lt_trichotomy hh 0 with k | k | k
    · rw [if_neg (by omega), if_pos k, sg_neg (by omega)]
    · rw [if_neg (by omega), if_neg (by omega), if_neg (by decide), sg_pos (by omega)]
    · rw [if_pos k, sg_pos (by omega)]
