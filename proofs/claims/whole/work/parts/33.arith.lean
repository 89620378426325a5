/-! Longs and ints without overflow; the two sign computations answer the sign of the exact sum. -/
theorem i_sub {a b : Int32} {x y : Int} (ha : a.toInt = x) (hb : b.toInt = y) (h1 : -2147483648 ≤ x - y) (h2 : x - y < 2147483648) : (a - b).toInt = x - y := by
  rw [Int32.toInt_sub, ha, hb]; exact Int.bmod_eq_of_le (by omega) (by omega)
theorem i_add {a b : Int32} {x y : Int} (ha : a.toInt = x) (hb : b.toInt = y) (h1 : -2147483648 ≤ x + y) (h2 : x + y < 2147483648) : (a + b).toInt = x + y := by
  rw [Int32.toInt_add, ha, hb]; exact Int.bmod_eq_of_le (by omega) (by omega)
theorem l_add {a b : Int64} {x y : Int} (ha : a.toInt = x) (hb : b.toInt = y) (h1 : -9223372036854775808 ≤ x + y) (h2 : x + y < 9223372036854775808) : (a + b).toInt = x + y := by
  rw [Int64.toInt_add, ha, hb]; exact Int.bmod_eq_of_le (by omega) (by omega)
theorem l_sub {a b : Int64} {x y : Int} (ha : a.toInt = x) (hb : b.toInt = y) (h1 : -9223372036854775808 ≤ x - y) (h2 : x - y < 9223372036854775808) : (a - b).toInt = x - y := by
  rw [Int64.toInt_sub, ha, hb]; exact Int.bmod_eq_of_le (by omega) (by omega)
theorem l_mul {a b : Int64} {x y : Int} (ha : a.toInt = x) (hb : b.toInt = y) (h1 : -9223372036854775808 ≤ x * y) (h2 : x * y < 9223372036854775808) : (a * b).toInt = x * y := by
  rw [Int64.toInt_mul, ha, hb]; exact Int.bmod_eq_of_le (by omega) (by omega)
theorem l_nat (a : Int64) : (a.toInt = (a.toBitVec.toNat : Int) ∧ a.toBitVec.toNat < 9223372036854775808) ∨ (a.toInt = (a.toBitVec.toNat : Int) - 18446744073709551616 ∧ 9223372036854775808 ≤ a.toBitVec.toNat ∧ a.toBitVec.toNat < 18446744073709551616) := by
  have h := a.toBitVec.isLt
  have e : a.toInt = if 2 * a.toBitVec.toNat < 2 ^ 64 then (a.toBitVec.toNat : Int) else (a.toBitVec.toNat : Int) - ((2 ^ 64 : Nat) : Int) := rfl
  split at e <;> omega
theorem l_andK {a : Int64} {m : Int64} (k : Nat) (hk : k < 63) (hm : m.toBitVec.toNat = 2 ^ k - 1) : (a &&& m).toInt = a.toInt % ((2 ^ k : Nat) : Int) := by
  have h1 : (a &&& m).toBitVec.toNat = a.toBitVec.toNat % 2 ^ k := by
    rw [Int64.toBitVec_and, BitVec.toNat_and, hm]; exact Nat.and_two_pow_sub_one_eq_mod _ k
  have hp : (2 ^ k : Nat) ∣ 2 ^ 64 := Nat.pow_dvd_pow 2 (by omega)
  have hlt : (2 ^ k : Nat) < 2 ^ 63 := Nat.pow_lt_pow_right (by omega) hk
  have hpos : 0 < 2 ^ k := Nat.two_pow_pos k
  have h2 := Nat.mod_lt a.toBitVec.toNat hpos
  obtain ⟨q, hq⟩ := hp
  generalize hK : 2 ^ k = K at *
  have h4 : (a &&& m).toInt = ((a.toBitVec.toNat % K : Nat) : Int) := by
    rcases l_nat (a &&& m) with ⟨e, -⟩ | ⟨-, e, -⟩
    · rw [e, h1]
    · rw [h1] at e; omega
  rw [h4, Int.natCast_emod]
  rcases l_nat a with ⟨e, -⟩ | ⟨e, -, -⟩
  · rw [e]
  · rw [e]
    have e3 : (18446744073709551616 : Int) = (K : Int) * (q : Int) := by
      have : ((2 ^ 64 : Nat) : Int) = ((K * q : Nat) : Int) := by rw [hq]
      rw [Int.natCast_mul] at this
      rw [← this]; rfl
    rw [e3, Int.sub_mul_emod_self_left]
theorem l_and15 {a : Int64} {x : Int} (h : a.toInt = x) : (a &&& 32767).toInt = x % 32768 := by rw [← h]; exact l_andK 15 (by omega) rfl
theorem l_and22 {a : Int64} {x : Int} (h : a.toInt = x) : (a &&& 4194303).toInt = x % 4194304 := by rw [← h]; exact l_andK 22 (by omega) rfl
theorem l_shrK {a s : Int64} (k : Nat) (hs : (s.toBitVec.smod 64).toNat = k) : (a >>> s).toInt = a.toInt / ((2 ^ k : Nat) : Int) := by
  rw [← Int64.toInt_toBitVec, Int64.toBitVec_shiftRight, BitVec.sshiftRight', hs, BitVec.toInt_sshiftRight, Int.shiftRight_eq_div_pow, Int64.toInt_toBitVec]
theorem l_shr15 {a : Int64} {x : Int} (h : a.toInt = x) : (a >>> ((15 : Int32).toInt64 &&& 63)).toInt = x / 32768 := by rw [← h]; exact l_shrK 15 (by decide)
theorem l_shr22 {a : Int64} {x : Int} (h : a.toInt = x) : (a >>> ((22 : Int32).toInt64 &&& 63)).toInt = x / 4194304 := by rw [← h]; exact l_shrK 22 (by decide)
theorem mulb {x y X Y : Int} (h1 : -X ≤ x) (h2 : x ≤ X) (h3 : -Y ≤ y) (h4 : y ≤ Y) : -(X * Y) ≤ x * y ∧ x * y ≤ X * Y := by
  have hX : 0 ≤ X := by omega
  have hY : 0 ≤ Y := by omega
  have k1 : 0 ≤ (X - x) * (Y - y) := Int.mul_nonneg (by omega) (by omega)
  have k2 : 0 ≤ (X + x) * (Y + y) := Int.mul_nonneg (by omega) (by omega)
  have k3 : 0 ≤ (X - x) * (Y + y) := Int.mul_nonneg (by omega) (by omega)
  have k4 : 0 ≤ (X + x) * (Y - y) := Int.mul_nonneg (by omega) (by omega)
  have e1 : (X - x) * (Y - y) = X * Y - X * y - x * Y + x * y := by grind
  have e2 : (X + x) * (Y + y) = X * Y + X * y + x * Y + x * y := by grind
  have e3 : (X - x) * (Y + y) = X * Y + X * y - x * Y - x * y := by grind
  have e4 : (X + x) * (Y - y) = X * Y - X * y + x * Y - x * y := by grind
  omega
/-- the sign of a number -/
def sg (z : Int) : Int32 := if 0 < z then 1 else if z < 0 then -1 else 0
theorem sg_pos {z : Int} (h : 0 < z) : sg z = 1 := by unfold sg; rw [if_pos h]
theorem sg_neg {z : Int} (h : z < 0) : sg z = -1 := by unfold sg; rw [if_neg (by omega), if_pos h]
theorem sg_zero : sg 0 = 0 := rfl
theorem cmp0_pos {x : Int64} (h : 0 < x.toInt) : lg_cmp x 0 = 1 := by
  unfold lg_cmp; rw [if_pos (show x > 0 from Int64.lt_iff_toInt_lt.mpr h)]
theorem cmp0_zero {x : Int64} (h : x.toInt = 0) : lg_cmp x 0 = 0 := by
  have e : x = 0 := Int64.toInt_inj.mp h
  rw [e]; rfl
theorem cmp0_neg {x : Int64} (h : x.toInt < 0) : lg_cmp x 0 = -1 := by
  unfold lg_cmp
  rw [if_neg (fun k : x > 0 => by have : (0 : Int) < x.toInt := Int64.lt_iff_toInt_lt.mp k; omega), if_neg (fun k => by rw [k] at h; exact absurd h (by decide))]
theorem s_F_sign {x : Int64} {z : Int} (h : x.toInt = z) : f_F_sign x = some (sg z) := by
  subst h
  unfold f_F_sign
  rcases Int.lt_trichotomy x.toInt 0 with h | h | h
  · rw [cmp0_neg h, sg_neg h]; rfl
  · rw [cmp0_zero h, h, sg_zero]; rfl
  · rw [cmp0_pos h, sg_pos h]; rfl
/-- three digits of base 32768 -/
theorem digits15 (p q r s t u : Int) : p * q + r * s + t * u = 1073741824 * ((p / 32768 / 32768) * q + (r / 32768 / 32768) * s + (t / 32768 / 32768) * u + ((p / 32768 % 32768) * q + (r / 32768 % 32768) * s + (t / 32768 % 32768) * u + ((p % 32768) * q + (r % 32768) * s + (t % 32768) * u) / 32768) / 32768)
    + 32768 * (((p / 32768 % 32768) * q + (r / 32768 % 32768) * s + (t / 32768 % 32768) * u + ((p % 32768) * q + (r % 32768) * s + (t % 32768) * u) / 32768) % 32768) + ((p % 32768) * q + (r % 32768) * s + (t % 32768) * u) % 32768 := by
  have ep : p = p % 32768 + 32768 * (p / 32768 % 32768) + 1073741824 * (p / 32768 / 32768) := by omega
  have er : r = r % 32768 + 32768 * (r / 32768 % 32768) + 1073741824 * (r / 32768 / 32768) := by omega
  have et : t = t % 32768 + 32768 * (t / 32768 % 32768) + 1073741824 * (t / 32768 / 32768) := by omega
  generalize p % 32768 = p0 at *
  generalize p / 32768 % 32768 = p1 at *
  generalize p / 32768 / 32768 = p2 at *
  generalize r % 32768 = r0 at *
  generalize r / 32768 % 32768 = r1 at *
  generalize r / 32768 / 32768 = r2 at *
  generalize t % 32768 = t0 at *
  generalize t / 32768 % 32768 = t1 at *
  generalize t / 32768 / 32768 = t2 at *
  have el := Int.emod_add_mul_ediv (p0 * q + r0 * s + t0 * u) 32768
  have em := Int.emod_add_mul_ediv (p1 * q + r1 * s + t1 * u + (p0 * q + r0 * s + t0 * u) / 32768) 32768
  generalize (p0 * q + r0 * s + t0 * u) % 32768 = l0 at *
  generalize (p0 * q + r0 * s + t0 * u) / 32768 = l1 at *
  generalize (p1 * q + r1 * s + t1 * u + l1) % 32768 = m0 at *
  generalize (p1 * q + r1 * s + t1 * u + l1) / 32768 = m1 at *
  subst ep er et
  grind
