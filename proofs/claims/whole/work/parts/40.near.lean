/-! nearest, inside; the reference's test of a triangle. -/
theorem has_at {tk : Nat → Int32} {k : Nat} (hk : k < 20) : f_P_has tk (nI k) = some (if tk k = 0 then 0 else 1) := by
  unfold f_P_has
  rw [if_neg (nI_pos (by omega)), if_neg (lt20 hk), if_pos (ix_nI hk (by decide)), cl_nI hk (by decide)]
  split <;> rfl
theorem near_loop {xs ys tk : Nat → Int32} {x y : Int32} : ∀ (n k : Nat) (b : Int32) (l : Int64), 20 - k < n → k ≤ 20 → (b = -1 ∨ ∃ m, m < 20 ∧ b = nI m) →
    ∃ r, f_F_nearest_L18 xs ys tk n x y b l (nI k) = some r ∧ f_N_nearest_L18 tk xs ys n x y b l (nI k) = some r := by
  intro n
  induction n with
  | zero => intro k b l h; exact absurd h (Nat.not_lt_zero _)
  | succ n ih =>
    intro k b l hn hk hb
    rw [f_F_nearest_L18, f_N_nearest_L18]
    by_cases e : k = 20
    · rw [if_pos (ge20 e), if_pos (ge20 e)]
      exact ⟨b, rfl, rfl⟩
    · have hk : k < 20 := by omega
      rw [if_neg (lt20 hk), if_neg (lt20 hk), has_at hk]
      unfold f_P_squaredDistance
      simp only [if_pos (ix_nI hk (by decide)), cl_nI hk (by decide), nI_1, Option.bind, f_F_nearest_b63, f_N_nearest_b84]
      by_cases h1 : tk k = 0
      · rw [if_pos h1, if_pos h1, if_pos rfl]
        exact ih (k + 1) b l (by omega) (by omega) hb
      · rw [if_neg h1, if_neg h1, if_neg (show ¬ (1 : Int32) = 0 by decide)]
        rcases hb with rfl | ⟨m, hm, rfl⟩
        · rw [if_pos rfl, if_pos (show (-1 : Int32) < 0 by decide)]
          exact ih (k + 1) (nI k) _ (by omega) (by omega) (Or.inr ⟨k, hk, rfl⟩)
        · rw [if_neg (show ¬ nI m = -1 from fun h => by have := nI_pos (n := m) (by omega); rw [h] at this; exact this (by decide)), if_neg (nI_pos (n := m) (by omega))]
          by_cases h2 : 0 ≤ lg_cmp ((xs k - x).toInt64 * (xs k - x).toInt64 + (ys k - y).toInt64 * (ys k - y).toInt64) l
          · rw [if_pos h2, if_pos h2]
            exact ih (k + 1) (nI m) l (by omega) (by omega) (Or.inr ⟨m, hm, rfl⟩)
          · rw [if_neg h2, if_neg h2]
            exact ih (k + 1) (nI k) _ (by omega) (by omega) (Or.inr ⟨k, hk, rfl⟩)
theorem op_nearest (xs ys tk : Nat → Int32) (x y : Int32) : ∃ r, f_F_nearest xs ys tk x y = some r ∧ f_N_nearest tk xs ys x y = some r := by
  obtain ⟨r, h1, h2⟩ := near_loop (xs := xs) (ys := ys) (tk := tk) (x := x) (y := y) 600 0 (-1) 0 (by omega) (by omega) (Or.inl rfl)
  rw [nI_0] at h1 h2
  unfold f_F_nearest f_N_nearest
  rw [h1, h2]
  rcases reach_cases x y with ⟨e1, e2, -, -⟩ | ⟨e1, e2⟩
  · rw [e1, e2]
    exact ⟨r, rfl, rfl⟩
  · rw [e1, e2]
    exact ⟨-1, rfl, rfl⟩
