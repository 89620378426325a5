/-! area, given what the outline holds. -/
def cr2 (p q : Int × Int) : Int := p.1 * q.2 - q.1 * p.2
def arF (f : Nat → Int × Int) : Nat → Int
  | 0 => 0
  | k + 1 => arF f k + (if 2 ≤ k then ori (f 0) (f (k - 1)) (f k) else 0)
def arS (f : Nat → Int × Int) : Nat → Int
  | 0 => 0
  | k + 1 => arS f k + cr2 (f k) (f (k + 1))
theorem arF_1 (f : Nat → Int × Int) : arF f 1 = 0 := by simp [arF]
theorem arF_2 (f : Nat → Int × Int) : arF f 2 = 0 := by simp [arF]
theorem arF_S (f : Nat → Int × Int) : ∀ k, arF f (k + 2) = arS f (k + 1) + cr2 (f (k + 1)) (f 0) := by
  intro k
  induction k with
  | zero =>
    show (0 + (if 2 ≤ 0 then _ else 0)) + (if 2 ≤ 1 then _ else 0) = 0 + cr2 (f 0) (f 1) + cr2 (f 1) (f 0)
    rw [if_neg (by omega), if_neg (by omega)]
    unfold cr2
    grind
  | succ k ih =>
    have e : arF f (k + 1 + 2) = arF f (k + 2) + ori (f 0) (f (k + 1)) (f (k + 2)) := by
      show arF f (k + 2) + (if 2 ≤ k + 2 then ori (f 0) (f (k + 2 - 1)) (f (k + 2)) else 0) = _
      rw [if_pos (by omega)]
      rfl
    rw [e, ih]
    show arS f (k + 1) + cr2 (f (k + 1)) (f 0) + ori (f 0) (f (k + 1)) (f (k + 2)) = arS f (k + 1) + cr2 (f (k + 1)) (f (k + 2)) + cr2 (f (k + 2)) (f 0)
    unfold cr2 ori
    grind
def arN (f : Nat → Int × Int) (h : Nat) : Nat → Int
  | 0 => 0
  | k + 1 => arN f h k + cr2 (f k) (f ((k + 1) % h))
theorem arN_S (f : Nat → Int × Int) (h : Nat) : ∀ k, k < h → arN f h k = arS f k := by
  intro k
  induction k with
  | zero => intro _; rfl
  | succ k ih =>
    intro hk
    show arN f h k + cr2 (f k) (f ((k + 1) % h)) = arS f k + cr2 (f k) (f (k + 1))
    rw [ih (by omega), Nat.mod_eq_of_lt hk]
theorem arN_F (f : Nat → Int × Int) {h : Nat} (hh : 0 < h) : arN f h h = arF f h := by
  cases h with
  | zero => omega
  | succ h =>
    show arN f (h + 1) h + cr2 (f h) (f ((h + 1) % (h + 1))) = arF f (h + 1)
    rw [arN_S f (h + 1) h (by omega), Nat.mod_self]
    cases h with
    | zero =>
      show 0 + cr2 (f 0) (f 0) = 0 + (if 2 ≤ 0 then _ else 0)
      rw [if_neg (by omega)]
      unfold cr2
      grind
    | succ h => exact (arF_S f h).symm
theorem bits8 {a b c : Int × Int} (ha : -1000000 ≤ a.1 ∧ a.1 ≤ 1000000 ∧ -1000000 ≤ a.2 ∧ a.2 ≤ 1000000) (hb : -1000000 ≤ b.1 ∧ b.1 ≤ 1000000 ∧ -1000000 ≤ b.2 ∧ b.2 ≤ 1000000) (hc : -1000000 ≤ c.1 ∧ c.1 ≤ 1000000 ∧ -1000000 ≤ c.2 ∧ c.2 ≤ 1000000) : -8000000000000 ≤ ori a b c ∧ ori a b c ≤ 8000000000000 := by
  unfold ori
  have m1 := mulb (x := b.1 - a.1) (y := c.2 - a.2) (X := 2000000) (Y := 2000000) (by omega) (by omega) (by omega) (by omega)
  have m2 := mulb (x := b.2 - a.2) (y := c.1 - a.1) (X := 2000000) (Y := 2000000) (by omega) (by omega) (by omega) (by omega)
  omega
theorem arF_bd {f : Nat → Int × Int} (hf : ∀ i, -1000000 ≤ (f i).1 ∧ (f i).1 ≤ 1000000 ∧ -1000000 ≤ (f i).2 ∧ (f i).2 ≤ 1000000) : ∀ k : Nat, -8000000000000 * (k : Int) ≤ arF f k ∧ arF f k ≤ 8000000000000 * (k : Int) := by
  intro k
  induction k with
  | zero => exact ⟨Int.le_refl 0, Int.le_refl 0⟩
  | succ k ih =>
    show _ ≤ arF f k + _ ∧ arF f k + _ ≤ _
    have := bits8 (hf 0) (hf (k - 1)) (hf k)
    split <;> omega
theorem arN_bd {f : Nat → Int × Int} (hf : ∀ i, -1000000 ≤ (f i).1 ∧ (f i).1 ≤ 1000000 ∧ -1000000 ≤ (f i).2 ∧ (f i).2 ≤ 1000000) (h : Nat) : ∀ k : Nat, -2000000000000 * (k : Int) ≤ arN f h k ∧ arN f h k ≤ 2000000000000 * (k : Int) := by
  intro k
  induction k with
  | zero => exact ⟨Int.le_refl 0, Int.le_refl 0⟩
  | succ k ih =>
    show _ ≤ arN f h k + cr2 _ _ ∧ arN f h k + cr2 _ _ ≤ _
    have a := hf k
    have b := hf ((k + 1) % h)
    have m1 := mulb (x := (f k).1) (y := (f ((k + 1) % h)).2) (X := 1000000) (Y := 1000000) (by omega) (by omega) (by omega) (by omega)
    have m2 := mulb (x := (f ((k + 1) % h)).1) (y := (f k).2) (X := 1000000) (Y := 1000000) (by omega) (by omega) (by omega) (by omega)
    unfold cr2
    omega
theorem ptf_bd {xs ys : Nat → Int32} (hx : B6 xs) (hy : B6 ys) (g : Nat → Nat) : ∀ i, -1000000 ≤ (ptf xs ys (g i)).1 ∧ (ptf xs ys (g i)).1 ≤ 1000000 ∧ -1000000 ≤ (ptf xs ys (g i)).2 ∧ (ptf xs ys (g i)).2 ≤ 1000000 := fun i => ⟨(hx (g i)).1, (hx (g i)).2, (hy (g i)).1, (hy (g i)).2⟩
section Q
variable {xs ys tk ord row ke fs li wa ri na nb nc ed : Nat → Int32} {st pn on fl mn wn rn kn ct rd : Int32} {od B : List Nat} {v : Int32 × (Nat → Int32) × Int32 × Int32 × (Nat → Int32) × (Nat → Int32) × Int32 × (Nat → Int32) × (Nat → Int32) × Int32 × (Nat → Int32) × Int32}
theorem arF_loop (hx : B6 xs) (hy : B6 ys) (hU : UI B row on) (hB : ∀ a ∈ B, a < 20) : ∀ (n k : Nat) (s : Int64), B.length - k < n → 2 ≤ k → k ≤ 20 → s.toInt = arF (fun i => ptf xs ys (B.getD i 0)) k → (k ≤ B.length ∨ k = 2) →
    ∃ s', f_F_area_L8 xs ys ord pn n st row on fl ke fs mn li wa wn ri rn s (nI k) = some (s', st, row, on, fl, ke, fs, mn, li, wa, wn, ri, rn) ∧ s'.toInt = arF (fun i => ptf xs ys (B.getD i 0)) B.length := by
  obtain ⟨u1, u2, u3⟩ := hU
  intro n
  induction n with
  | zero => intro k s h; exact absurd h (Nat.not_lt_zero _)
  | succ n ih =>
    intro k s hn h2 h20 hs hk
    rw [f_F_area_L8]
    dsimp only [Option.bind, f_O_size]
    by_cases e : B.length ≤ k
    · rw [if_pos (show on ≤ nI k by rw [u1]; exact nI_le e (by omega))]
      refine ⟨s, rfl, ?_⟩
      rw [hs]
      have : k = B.length ∨ B.length < 2 ∧ k = 2 := by omega
      rcases this with q | ⟨q, q2⟩
      · rw [q]
      · subst q2
        rw [arF_2]
        rcases (show B.length = 0 ∨ B.length = 1 by omega) with q3 | q3
        · rw [q3, arF]
        · rw [q3, arF_1]
    · have hk' : k < B.length := by omega
      rw [if_neg (show ¬ on ≤ nI k by rw [u1]; exact nI_ge hk' (by omega))]
      unfold f_O_at
      have e1 : nI k - 1 = nI (k - 1) := by
        cases k with
        | zero => omega
        | succ k => exact nI_pred k
      have i0 : ix 0 40 = true := by rw [← nI_0]; exact ix_nI (by omega) (by decide)
      have c0 : (0 : Int32).toNatClampNeg = 0 := sb_cl0
      rw [e1, if_pos i0, c0, u3 0 (by omega), if_pos (ix_nI (show k - 1 < 40 by omega) (by decide)), cl_nI (show k - 1 < 40 by omega) (by decide), u3 (k - 1) (by omega), if_pos (ix_nI (show k < 40 by omega) (by decide)), cl_nI (show k < 40 by omega) (by decide), u3 k hk']
      dsimp only
      obtain ⟨w, e2, z⟩ := s_area hx hy (hB _ (getD_mem (show 0 < B.length by omega))) (hB _ (getD_mem (show k - 1 < B.length by omega))) (hB _ (getD_mem hk'))
      rw [e2]
      dsimp only
      rw [nI_1]
      have bd := arF_bd (ptf_bd hx hy (fun i => B.getD i 0)) k
      have b8 := bits8 (ptf_bd hx hy (fun i => B.getD i 0) 0) (ptf_bd hx hy (fun i => B.getD i 0) (k - 1)) (ptf_bd hx hy (fun i => B.getD i 0) k)
      refine ih (k + 1) (s + w) (by omega) (by omega) (by omega) ?_ (Or.inl (by omega))
      rw [l_add hs z (by omega) (by omega)]
      show _ = arF (fun i => ptf xs ys (B.getD i 0)) k + (if 2 ≤ k then _ else 0)
      rw [if_pos h2]
theorem arN_loop (hx : B6 xs) (hy : B6 ys) (h20 : B.length ≤ 20) (hpos : 0 < B.length) (hB : ∀ a ∈ B, a < 20) (he : ∀ j, j < B.length → ed j = nI (B.getD j 0)) : ∀ (n k : Nat) (s : Int64), B.length - k < n → k ≤ B.length → s.toInt = arN (fun i => ptf xs ys (B.getD i 0)) B.length k →
    ∃ s', f_N_area_L8 tk xs ys n kn ct na nb nc (nI B.length) ed s (nI k) = some (if ct = 0 then 0 else s', kn, ct, na, nb, nc, nI B.length, ed) ∧ s'.toInt = arN (fun i => ptf xs ys (B.getD i 0)) B.length B.length := by
  intro n
  induction n with
  | zero => intro k s h; exact absurd h (Nat.not_lt_zero _)
  | succ n ih =>
    intro k s hn hk hs
    rw [f_N_area_L8]
    by_cases e : k = B.length
    · rw [if_pos (nI_le (by omega) (by omega))]
      refine ⟨s, ?_, by rw [hs, e]⟩
      split <;> rfl
    · have hk' : k < B.length := by omega
      have hm : (k + 1) % B.length < B.length := Nat.mod_lt _ hpos
      have er : nI (k + 1) - nI (k + 1) / nI B.length * nI B.length = nI ((k + 1) % B.length) := pk_rem (by omega) hpos (by omega)
      have b1 := hB _ (getD_mem hk')
      have b2 := hB _ (getD_mem hm)
      rw [if_neg (nI_ge hk' (by omega)), nI_1, er]
      simp only [if_pos (ix_nI (show k < 20 by omega) (by decide)), if_neg (nI_ne0 hpos (show B.length < 2 ^ 31 by omega)), if_pos (ix_nI (show (k + 1) % B.length < 20 by omega) (by decide)), cl_nI (show k < 20 by omega) (by decide), cl_nI (show (k + 1) % B.length < 20 by omega) (by decide), he k hk', he _ hm, if_pos (ix_nI b1 (by decide)), if_pos (ix_nI b2 (by decide)), cl_nI b1 (by decide), cl_nI b2 (by decide)]
      have bd := arN_bd (ptf_bd hx hy (fun i => B.getD i 0)) B.length k
      have f1 := ptf_bd hx hy (fun i => B.getD i 0) k
      have f2 := ptf_bd hx hy (fun i => B.getD i 0) ((k + 1) % B.length)
      unfold ptf at f1 f2
      dsimp only at f1 f2
      have m1 := mulb (x := (xs (B.getD k 0)).toInt) (y := (ys (B.getD ((k + 1) % B.length) 0)).toInt) (X := 1000000) (Y := 1000000) (by omega) (by omega) (by omega) (by omega)
      have m2 := mulb (x := (xs (B.getD ((k + 1) % B.length) 0)).toInt) (y := (ys (B.getD k 0)).toInt) (X := 1000000) (Y := 1000000) (by omega) (by omega) (by omega) (by omega)
      refine ih (k + 1) _ (by omega) (by omega) ?_
      rw [l_sub (l_add hs (l_mul (il rfl) (il rfl) (by omega) (by omega)) (by omega) (by omega)) (l_mul (il rfl) (il rfl) (by omega) (by omega)) (by omega) (by omega)]
      show _ = arN (fun i => ptf xs ys (B.getD i 0)) B.length k + cr2 (ptf xs ys (B.getD k 0)) (ptf xs ys (B.getD ((k + 1) % B.length) 0))
      unfold cr2 ptf
      dsimp only
      omega
end Q
