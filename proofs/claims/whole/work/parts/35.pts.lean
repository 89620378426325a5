/-! The tests on sites, class and reference, in terms of points. -/
def B6 (f : Nat → Int32) : Prop := ∀ i, -1000000 ≤ (f i).toInt ∧ (f i).toInt ≤ 1000000
def ptf (xs ys : Nat → Int32) (i : Nat) : Int × Int := ((xs i).toInt, (ys i).toInt)
theorem ix_nI {a n : Nat} (h : a < n) (hn : n < 2 ^ 31) : ix (nI a) n = true := by
  unfold ix
  rw [nI_toInt (by omega)]
  exact decide_eq_true ⟨by omega, by omega⟩
theorem cl_nI {a n : Nat} (h : a < n) (hn : n < 2 ^ 31) : (nI a).toNatClampNeg = a := nI_clamp (by omega)
theorem il {a : Int32} {x : Int} (h : a.toInt = x) : a.toInt64.toInt = x := by rw [Int32.toInt_toInt64]; exact h
theorem s_cross {xs ys : Nat → Int32} (hx : B6 xs) (hy : B6 ys) {a b : Nat} (ha : a < 20) (hb : b < 20) {x y : Int32} {X Y : Int} (ex : x.toInt = X) (ey : y.toInt = Y) (bX : -1000000 ≤ X ∧ X ≤ 1000000) (bY : -1000000 ≤ Y ∧ Y ≤ 1000000) :
    ∃ v, f_P_crossTo xs ys (nI a) (nI b) x y = some v ∧ v.toInt = ori (ptf xs ys a) (ptf xs ys b) (X, Y) := by
  have xa := hx a
  have xb := hx b
  have ya := hy a
  have yb := hy b
  have ia := ix_nI ha (by decide)
  have ib := ix_nI hb (by decide)
  have ca := cl_nI ha (by decide)
  have cb := cl_nI hb (by decide)
  unfold f_P_crossTo
  simp only [if_pos ia, if_pos ib, ca, cb]
  refine ⟨_, rfl, ?_⟩
  unfold ori ptf
  dsimp only
  have m1 := mulb (x := (xs b).toInt - (xs a).toInt) (y := Y - (ys a).toInt) (X := 2000000) (Y := 2000000) (by omega) (by omega) (by omega) (by omega)
  have m2 := mulb (x := (ys b).toInt - (ys a).toInt) (y := X - (xs a).toInt) (X := 2000000) (Y := 2000000) (by omega) (by omega) (by omega) (by omega)
  exact l_sub (l_mul (il (i_sub rfl rfl (by omega) (by omega))) (il (i_sub ey rfl (by omega) (by omega))) (by omega) (by omega)) (l_mul (il (i_sub rfl rfl (by omega) (by omega))) (il (i_sub ex rfl (by omega) (by omega))) (by omega) (by omega)) (by omega) (by omega)
theorem s_side {xs ys : Nat → Int32} (hx : B6 xs) (hy : B6 ys) {a b c : Nat} (ha : a < 20) (hb : b < 20) (hc : c < 20) : f_P_side xs ys (nI a) (nI b) (nI c) = some (sg (ori (ptf xs ys a) (ptf xs ys b) (ptf xs ys c))) := by
  have ic' := ix_nI hc (by decide)
  have cc' := cl_nI hc (by decide)
  obtain ⟨v, e1, e2⟩ := s_cross hx hy ha hb (x := xs c) (y := ys c) rfl rfl (hx c) (hy c)
  unfold f_P_side
  simp only [if_pos ic', cc', e1, Option.bind]
  rw [s_F_sign e2]
  rfl
theorem s_area {xs ys : Nat → Int32} (hx : B6 xs) (hy : B6 ys) {a b c : Nat} (ha : a < 20) (hb : b < 20) (hc : c < 20) : ∃ v, f_P_doubleArea xs ys (nI a) (nI b) (nI c) = some v ∧ v.toInt = ori (ptf xs ys a) (ptf xs ys b) (ptf xs ys c) := by
  have ic' := ix_nI hc (by decide)
  have cc' := cl_nI hc (by decide)
  obtain ⟨v, e1, e2⟩ := s_cross hx hy ha hb (x := xs c) (y := ys c) rfl rfl (hx c) (hy c)
  refine ⟨v, ?_, e2⟩
  unfold f_P_doubleArea
  simp only [if_pos ic', cc', e1, Option.bind]
theorem s_NsideOf {xs ys : Nat → Int32} (hx : B6 xs) (hy : B6 ys) {a b : Nat} (ha : a < 20) (hb : b < 20) {x y : Int32} {X Y : Int} (ex : x.toInt = X) (ey : y.toInt = Y) (bX : -1000000 ≤ X ∧ X ≤ 1000000) (bY : -1000000 ≤ Y ∧ Y ≤ 1000000) :
    f_N_sideOf xs ys (nI a) (nI b) x y = some (sg (ori (ptf xs ys a) (ptf xs ys b) (X, Y))) := by
  obtain ⟨v, e1, e2⟩ := s_cross hx hy ha hb ex ey bX bY
  have ia := ix_nI ha (by decide)
  have ib := ix_nI hb (by decide)
  have ca := cl_nI ha (by decide)
  have cb := cl_nI hb (by decide)
  unfold f_P_crossTo at e1
  simp only [if_pos ia, if_pos ib, ca, cb] at e1
  unfold f_N_sideOf
  simp only [if_pos ia, if_pos ib, ca, cb]
  rw [Option.some.inj e1]
  have k := s_F_sign e2
  unfold f_F_sign at k
  exact k
theorem s_Nside {xs ys : Nat → Int32} (hx : B6 xs) (hy : B6 ys) {a b c : Nat} (ha : a < 20) (hb : b < 20) (hc : c < 20) : f_N_side xs ys (nI a) (nI b) (nI c) = some (sg (ori (ptf xs ys a) (ptf xs ys b) (ptf xs ys c))) := by
  have ic' := ix_nI hc (by decide)
  have cc' := cl_nI hc (by decide)
  unfold f_N_side
  simp only [if_pos ic', cc', s_NsideOf hx hy ha hb (x := xs c) (y := ys c) rfl rfl (hx c) (hy c), Option.bind]
  rfl
/-- the six products of the circle's test, as longs -/
theorem circ_bounds {A B C D E F : Int} (hA : -2000000 ≤ A ∧ A ≤ 2000000) (hB : -2000000 ≤ B ∧ B ≤ 2000000) (hC : -2000000 ≤ C ∧ C ≤ 2000000) (hD : -2000000 ≤ D ∧ D ≤ 2000000) :
    (0 ≤ A * A + B * B ∧ A * A + B * B ≤ 8000000000000) ∧ (-8000000000000 ≤ A * B - C * D ∧ A * B - C * D ≤ 8000000000000) ∧ (-4000000000000 ≤ A * B ∧ A * B ≤ 4000000000000) ∧ (-4000000000000 ≤ A * A ∧ A * A ≤ 4000000000000) := by
  have m1 := mulb hA.1 hA.2 hA.1 hA.2
  have m2 := mulb hB.1 hB.2 hB.1 hB.2
  have m3 := mulb hA.1 hA.2 hB.1 hB.2
  have m4 := mulb hC.1 hC.2 hD.1 hD.2
  have s1 := sqn A
  have s2 := sqn B
  omega
theorem l_sq {a b : Int64} {A B : Int} (ha : a.toInt = A) (hb : b.toInt = B) (hA : -2000000 ≤ A ∧ A ≤ 2000000) (hB : -2000000 ≤ B ∧ B ≤ 2000000) : (a * a + b * b).toInt = A * A + B * B ∧ 0 ≤ A * A + B * B ∧ A * A + B * B ≤ 8000000000000 := by
  have m1 := mulb hA.1 hA.2 hA.1 hA.2
  have m2 := mulb hB.1 hB.2 hB.1 hB.2
  have s1 := sqn A
  have s2 := sqn B
  exact ⟨l_add (l_mul ha ha (by omega) (by omega)) (l_mul hb hb (by omega) (by omega)) (by omega) (by omega), by omega, by omega⟩
theorem l_cr {a b c d : Int64} {A B C D : Int} (ha : a.toInt = A) (hb : b.toInt = B) (hc : c.toInt = C) (hd : d.toInt = D) (hA : -2000000 ≤ A ∧ A ≤ 2000000) (hB : -2000000 ≤ B ∧ B ≤ 2000000) (hC : -2000000 ≤ C ∧ C ≤ 2000000) (hD : -2000000 ≤ D ∧ D ≤ 2000000) : (a * b - c * d).toInt = A * B - C * D ∧ -8000000000000 ≤ A * B - C * D ∧ A * B - C * D ≤ 8000000000000 := by
  have m1 := mulb hA.1 hA.2 hB.1 hB.2
  have m2 := mulb hC.1 hC.2 hD.1 hD.2
  exact ⟨l_sub (l_mul ha hb (by omega) (by omega)) (l_mul hc hd (by omega) (by omega)) (by omega) (by omega), by omega, by omega⟩
theorem s_circ {xs ys : Nat → Int32} (hx : B6 xs) (hy : B6 ys) {a b c d : Nat} (ha : a < 20) (hb : b < 20) (hc : c < 20) (hd : d < 20) : f_P_circleSide xs ys (nI a) (nI b) (nI c) (nI d) = some (sg (inc (ptf xs ys a) (ptf xs ys b) (ptf xs ys c) (ptf xs ys d))) := by
  have dif : ∀ {f : Nat → Int32}, B6 f → ∀ i j, ((f i - f j).toInt64).toInt = (f i).toInt - (f j).toInt ∧ -2000000 ≤ (f i).toInt - (f j).toInt ∧ (f i).toInt - (f j).toInt ≤ 2000000 := by
    intro f hf i j
    have h1 := hf i
    have h2 := hf j
    exact ⟨il (i_sub rfl rfl (by omega) (by omega)), by omega, by omega⟩
  unfold f_P_circleSide
  simp only [if_pos (ix_nI ha (by decide)), if_pos (ix_nI hb (by decide)), if_pos (ix_nI hc (by decide)), if_pos (ix_nI hd (by decide)), cl_nI ha (by decide), cl_nI hb (by decide), cl_nI hc (by decide), cl_nI hd (by decide)]
  have q1 := l_sq (dif hx a d).1 (dif hy a d).1 (dif hx a d).2 (dif hy a d).2
  have q2 := l_sq (dif hx b d).1 (dif hy b d).1 (dif hx b d).2 (dif hy b d).2
  have q3 := l_sq (dif hx c d).1 (dif hy c d).1 (dif hx c d).2 (dif hy c d).2
  have r1 := l_cr (dif hx b d).1 (dif hy c d).1 (dif hy b d).1 (dif hx c d).1 (dif hx b d).2 (dif hy c d).2 (dif hy b d).2 (dif hx c d).2
  have r2 := l_cr (dif hx c d).1 (dif hy a d).1 (dif hy c d).1 (dif hx a d).1 (dif hx c d).2 (dif hy a d).2 (dif hy c d).2 (dif hx a d).2
  have r3 := l_cr (dif hx a d).1 (dif hy b d).1 (dif hy a d).1 (dif hx b d).1 (dif hx a d).2 (dif hy b d).2 (dif hy a d).2 (dif hx b d).2
  rw [s_sop q1.1 r1.1 q2.1 r2.1 q3.1 r3.1 q1.2 r1.2 q2.2 r2.2 q3.2 r3.2]
  rfl
theorem s_Ncirc {xs ys : Nat → Int32} (hx : B6 xs) (hy : B6 ys) {a b c d : Nat} (ha : a < 20) (hb : b < 20) (hc : c < 20) (hd : d < 20) : f_N_circle xs ys (nI a) (nI b) (nI c) (nI d) = some (sg (inc (ptf xs ys a) (ptf xs ys b) (ptf xs ys c) (ptf xs ys d))) := by
  have dif : ∀ {f : Nat → Int32}, B6 f → ∀ i j, ((f i - f j).toInt64).toInt = (f i).toInt - (f j).toInt ∧ -2000000 ≤ (f i).toInt - (f j).toInt ∧ (f i).toInt - (f j).toInt ≤ 2000000 := by
    intro f hf i j
    have h1 := hf i
    have h2 := hf j
    exact ⟨il (i_sub rfl rfl (by omega) (by omega)), by omega, by omega⟩
  unfold f_N_circle
  simp only [if_pos (ix_nI ha (by decide)), if_pos (ix_nI hb (by decide)), if_pos (ix_nI hc (by decide)), if_pos (ix_nI hd (by decide)), cl_nI ha (by decide), cl_nI hb (by decide), cl_nI hc (by decide), cl_nI hd (by decide)]
  have q1 := l_sq (dif hx a d).1 (dif hy a d).1 (dif hx a d).2 (dif hy a d).2
  have q2 := l_sq (dif hx b d).1 (dif hy b d).1 (dif hx b d).2 (dif hy b d).2
  have q3 := l_sq (dif hx c d).1 (dif hy c d).1 (dif hx c d).2 (dif hy c d).2
  have r1 := l_cr (dif hx b d).1 (dif hy c d).1 (dif hy b d).1 (dif hx c d).1 (dif hx b d).2 (dif hy c d).2 (dif hy b d).2 (dif hx c d).2
  have r2 := l_cr (dif hx c d).1 (dif hy a d).1 (dif hy c d).1 (dif hx a d).1 (dif hx c d).2 (dif hy a d).2 (dif hy c d).2 (dif hx a d).2
  have r3 := l_cr (dif hx a d).1 (dif hy b d).1 (dif hy a d).1 (dif hx b d).1 (dif hx a d).2 (dif hy b d).2 (dif hy a d).2 (dif hx b d).2
  rw [s_Nsign q1.1 r1.1 q2.1 r2.1 q3.1 r3.1 q1.2 r1.2 q2.2 r2.2 q3.2 r3.2]
  rfl
def b01 (b : Bool) : Int32 := if b then 1 else 0
theorem s_earlier {xs ys : Nat → Int32} {a b : Nat} (ha : a < 20) (hb : b < 20) : f_P_isEarlier xs ys (nI a) (nI b) = some (b01 (lexb (ptf xs ys a) (ptf xs ys b))) := by
  unfold f_P_isEarlier lexb ptf
  simp only [if_pos (ix_nI ha (by decide)), if_pos (ix_nI hb (by decide)), cl_nI ha (by decide), cl_nI hb (by decide)]
  by_cases h1 : xs a < xs b
  · have k := Int32.lt_iff_toInt_lt.mp h1
    simp [h1, k, b01]
  · have k := fun h => h1 (Int32.lt_iff_toInt_lt.mpr h)
    by_cases h2 : xs a = xs b
    · have k2 := Int32.toInt_inj.mpr h2
      by_cases h3 : ys b ≤ ys a
      · have k3 := Int32.le_iff_toInt_le.mp h3
        rw [if_neg h1, if_pos h2, if_pos h3]
        simp [b01, k2, Int.not_lt.mpr k3]
      · have k3 : ¬ (ys b).toInt ≤ (ys a).toInt := fun h => h3 (Int32.le_iff_toInt_le.mpr h)
        rw [if_neg h1, if_pos h2, if_neg h3]
        simp [b01, k2, Int.not_le.mp k3]
    · have k2 : ¬ (xs a).toInt = (xs b).toInt := fun h => h2 (Int32.toInt_inj.mp h)
      rw [if_neg h1, if_neg h2]
      simp [b01, k2]
      exact Int.not_lt.mp k
theorem s_Nearlier {xs ys : Nat → Int32} {a b : Nat} (ha : a < 20) (hb : b < 20) : f_N_earlier xs ys (nI a) (nI b) = some (b01 (lexb (ptf xs ys a) (ptf xs ys b))) := s_earlier ha hb
