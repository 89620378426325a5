/-! Searching the slots. -/
theorem has_cases (tk : Nat → Int32) (x : Int32) : (∃ a, a < 20 ∧ x = nI a ∧ tk a ≠ 0 ∧ f_P_has tk x = some 1) ∨ (f_P_has tk x = some 0 ∧ ∀ a, a < 20 → x = nI a → tk a = 0) := by
  unfold f_P_has
  rcases pk_ix x (n := 20) (by decide) with h | h | ⟨j, hj, rfl⟩
  · right
    rw [if_pos h]
    refine ⟨rfl, fun a ha e => ?_⟩
    subst e
    exact absurd h (nI_pos (by omega))
  · right
    have h' : (20 : Int32) ≤ x := h
    rw [if_pos h']
    refine ⟨by split <;> rfl, fun a ha e => ?_⟩
    subst e
    exact absurd h (nI_ge ha (by omega))
  · rw [if_neg (nI_pos (by omega)), if_neg (show ¬ (20 : Int32) ≤ nI j from nI_ge hj (by decide)), if_pos (ix_nI hj (by decide)), cl_nI hj (by decide)]
    by_cases h : tk j = 0
    · right
      rw [if_pos h]
      refine ⟨rfl, fun a ha e => ?_⟩
      rw [← (nI_eq (by omega) (by omega)).mp e]
      exact h
    · left
      rw [if_neg h]
      exact ⟨j, hj, rfl, h, rfl⟩
theorem N_is (tk : Nat → Int32) (x : Int32) : f_N_is tk x = f_P_has tk x := rfl
theorem reach_cases (x y : Int32) : (f_F_inReach x y = some 1 ∧ f_N_outside x y = some 0 ∧ (-1000000 ≤ x.toInt ∧ x.toInt ≤ 1000000) ∧ (-1000000 ≤ y.toInt ∧ y.toInt ≤ 1000000)) ∨ (f_F_inReach x y = some 0 ∧ f_N_outside x y = some 1) := by
  have e1 : (-1000000 : Int32).toInt = -1000000 := by decide
  have e2 : (1000000 : Int32).toInt = 1000000 := by decide
  unfold f_F_inReach f_N_outside
  by_cases h1 : x < (-1000000 : Int32)
  · right; rw [if_pos h1, if_pos h1]; exact ⟨rfl, rfl⟩
  by_cases h2 : (1000000 : Int32) < x
  · right; rw [if_neg h1, if_neg h1, if_pos h2, if_pos h2]; exact ⟨rfl, rfl⟩
  by_cases h3 : y < (-1000000 : Int32)
  · right; rw [if_neg h1, if_neg h1, if_neg h2, if_neg h2, if_pos h3, if_pos h3]; exact ⟨rfl, rfl⟩
  by_cases h4 : (1000000 : Int32) < y
  · right
    have h5 : ¬ y ≤ (1000000 : Int32) := fun h => by
      have a := Int32.lt_iff_toInt_lt.mp h4
      have b := Int32.le_iff_toInt_le.mp h
      omega
    rw [if_neg h1, if_neg h1, if_neg h2, if_neg h2, if_neg h3, if_neg h3, if_pos h4, if_neg h5]; exact ⟨rfl, rfl⟩
  · left
    have k1 : ¬ x.toInt < -1000000 := fun h => h1 (Int32.lt_iff_toInt_lt.mpr (by rw [e1]; exact h))
    have k2 : ¬ 1000000 < x.toInt := fun h => h2 (Int32.lt_iff_toInt_lt.mpr (by rw [e2]; exact h))
    have k3 : ¬ y.toInt < -1000000 := fun h => h3 (Int32.lt_iff_toInt_lt.mpr (by rw [e1]; exact h))
    have k4 : ¬ 1000000 < y.toInt := fun h => h4 (Int32.lt_iff_toInt_lt.mpr (by rw [e2]; exact h))
    have h5 : y ≤ (1000000 : Int32) := Int32.le_iff_toInt_le.mpr (by rw [e2]; omega)
    rw [if_neg h1, if_neg h1, if_neg h2, if_neg h2, if_neg h3, if_neg h3, if_neg h4, if_pos h5]
    exact ⟨rfl, rfl, by omega, by omega⟩
theorem lt20 {k : Nat} (h : k < 20) : ¬ (20 : Int32) ≤ nI k := nI_ge h (by decide)
theorem ge20 {k : Nat} (h : k = 20) : (20 : Int32) ≤ nI k := by rw [h]; decide
theorem slotAt_loop {xs ys tk : Nat → Int32} {x y : Int32} : ∀ (n k : Nat), 20 - k < n → k ≤ 20 → (∀ j, j < k → tk j ≠ 0 → ¬ (xs j = x ∧ ys j = y)) →
    (∃ m, m < 20 ∧ tk m ≠ 0 ∧ (xs m = x ∧ ys m = y) ∧ f_P_slotAt_L2 xs ys tk n x y (nI k) = some (nI m)) ∨ ((∀ j, j < 20 → tk j ≠ 0 → ¬ (xs j = x ∧ ys j = y)) ∧ f_P_slotAt_L2 xs ys tk n x y (nI k) = some (-1)) := by
  intro n
  induction n with
  | zero => intro k h; exact absurd h (Nat.not_lt_zero _)
  | succ n ih =>
    intro k hn hk h
    rw [f_P_slotAt_L2]
    by_cases e : k = 20
    · right
      rw [if_pos (ge20 e)]
      subst e
      exact ⟨h, rfl⟩
    · have hk : k < 20 := by omega
      rw [if_neg (lt20 hk)]
      simp only [if_pos (ix_nI hk (by decide)), cl_nI hk (by decide), nI_1]
      have next : ¬ (tk k ≠ 0 ∧ (xs k = x ∧ ys k = y)) → ∀ j, j < k + 1 → tk j ≠ 0 → ¬ (xs j = x ∧ ys j = y) := by
        intro hq j hj ht hm
        by_cases e2 : j = k
        · subst e2; exact hq ⟨ht, hm⟩
        · exact h j (by omega) ht hm
      by_cases h1 : tk k = 0
      · rw [if_pos h1]
        exact ih (k + 1) (by omega) (by omega) (next (fun q => q.1 h1))
      · rw [if_neg h1]
        by_cases h2 : xs k = x
        · rw [if_pos h2]
          by_cases h3 : ys k = y
          · rw [if_pos h3]
            exact Or.inl ⟨k, hk, h1, ⟨h2, h3⟩, rfl⟩
          · rw [if_neg h3]
            exact ih (k + 1) (by omega) (by omega) (next (fun q => h3 q.2.2))
        · rw [if_neg h2]
          exact ih (k + 1) (by omega) (by omega) (next (fun q => h2 q.2.1))
theorem siteAt_loop {xs ys tk : Nat → Int32} {x y : Int32} : ∀ (n k : Nat) (f : Int32), 20 - k < n → k ≤ 20 → ((f = -1 ∧ ∀ j, j < k → tk j ≠ 0 → ¬ (xs j = x ∧ ys j = y)) ∨ ∃ m, m < 20 ∧ tk m ≠ 0 ∧ (xs m = x ∧ ys m = y) ∧ f = nI m) →
    (∃ m, m < 20 ∧ tk m ≠ 0 ∧ (xs m = x ∧ ys m = y) ∧ f_N_siteAt_L5 tk xs ys n x y f (nI k) = some (nI m)) ∨ ((∀ j, j < 20 → tk j ≠ 0 → ¬ (xs j = x ∧ ys j = y)) ∧ f_N_siteAt_L5 tk xs ys n x y f (nI k) = some (-1)) := by
  intro n
  induction n with
  | zero => intro k f h; exact absurd h (Nat.not_lt_zero _)
  | succ n ih =>
    intro k f hn hk h
    rw [f_N_siteAt_L5]
    by_cases e : k = 20
    · rw [if_pos (ge20 e)]
      subst e
      rcases h with ⟨h1, h2⟩ | ⟨m, m1, m2, m3, m4⟩
      · exact Or.inr ⟨h2, by rw [h1]⟩
      · exact Or.inl ⟨m, m1, m2, m3, by rw [m4]⟩
    · have hk : k < 20 := by omega
      rw [if_neg (lt20 hk)]
      simp only [if_pos (ix_nI hk (by decide)), cl_nI hk (by decide), nI_1]
      have next : ¬ (tk k ≠ 0 ∧ (xs k = x ∧ ys k = y)) → ((f = -1 ∧ ∀ j, j < k + 1 → tk j ≠ 0 → ¬ (xs j = x ∧ ys j = y)) ∨ ∃ m, m < 20 ∧ tk m ≠ 0 ∧ (xs m = x ∧ ys m = y) ∧ f = nI m) := by
        intro hq
        rcases h with ⟨h1, h2⟩ | h
        · refine Or.inl ⟨h1, fun j hj ht hm => ?_⟩
          by_cases e2 : j = k
          · subst e2; exact hq ⟨ht, hm⟩
          · exact h2 j (by omega) ht hm
        · exact Or.inr h
      by_cases h1 : tk k = 0
      · rw [if_pos h1]
        exact ih (k + 1) f (by omega) (by omega) (next (fun q => q.1 h1))
      · rw [if_neg h1]
        by_cases h2 : xs k = x
        · rw [if_pos h2]
          by_cases h3 : ys k = y
          · rw [if_pos h3]
            exact ih (k + 1) (nI k) (by omega) (by omega) (Or.inr ⟨k, hk, h1, ⟨h2, h3⟩, rfl⟩)
          · rw [if_neg h3]
            exact ih (k + 1) f (by omega) (by omega) (next (fun q => h3 q.2.2))
        · rw [if_neg h2]
          exact ih (k + 1) f (by omega) (by omega) (next (fun q => h2 q.2.1))
/-- both searches for a place find the same slot, or none -/
theorem at_cases {xs ys tk : Nat → Int32} (hI : PI xs ys tk) (x y : Int32) : (∃ m, m < 20 ∧ tk m ≠ 0 ∧ (xs m = x ∧ ys m = y) ∧ f_P_slotAt xs ys tk x y = some (nI m) ∧ f_N_siteAt tk xs ys x y = some (nI m)) ∨ ((∀ j, tk j ≠ 0 → ¬ (xs j = x ∧ ys j = y)) ∧ f_P_slotAt xs ys tk x y = some (-1) ∧ f_N_siteAt tk xs ys x y = some (-1)) := by
  rcases slotAt_loop (xs := xs) (ys := ys) (tk := tk) (x := x) (y := y) 600 0 (by omega) (by omega) (fun j hj => absurd hj (Nat.not_lt_zero _)) with ⟨m, m1, m2, m3, m4⟩ | ⟨h1, h2⟩
  · rcases siteAt_loop (xs := xs) (ys := ys) (tk := tk) (x := x) (y := y) 600 0 (-1) (by omega) (by omega) (Or.inl ⟨rfl, fun j hj => absurd hj (Nat.not_lt_zero _)⟩) with ⟨q, q1, q2, q3, q4⟩ | ⟨h1, h2⟩
    · have e := hI.2.2.2.2 m q m2 q2 (m3.1.trans q3.1.symm) (m3.2.trans q3.2.symm)
      subst e
      exact Or.inl ⟨m, m1, m2, m3, m4, q4⟩
    · exact absurd m3 (h1 m m1 m2)
  · rcases siteAt_loop (xs := xs) (ys := ys) (tk := tk) (x := x) (y := y) 600 0 (-1) (by omega) (by omega) (Or.inl ⟨rfl, fun j hj => absurd hj (Nat.not_lt_zero _)⟩) with ⟨q, q1, q2, q3, q4⟩ | ⟨k1, k2⟩
    · exact absurd q3 (h1 q q1 q2)
    · exact Or.inr ⟨fun j hj => h1 j (hI.2.2.2.1 j hj) hj, h2, k2⟩
theorem free_loop {tk : Nat → Int32} : ∀ (n k : Nat), 20 - k < n → k ≤ 20 → (∀ j, j < k → tk j ≠ 0) →
    (∃ m, m < 20 ∧ tk m = 0 ∧ (∀ j, j < m → tk j ≠ 0) ∧ f_P_freeSlot_L2 tk n (nI k) = some (nI m)) ∨ ((∀ j, j < 20 → tk j ≠ 0) ∧ f_P_freeSlot_L2 tk n (nI k) = some (-1)) := by
  intro n
  induction n with
  | zero => intro k h; exact absurd h (Nat.not_lt_zero _)
  | succ n ih =>
    intro k hn hk h
    rw [f_P_freeSlot_L2]
    by_cases e : k = 20
    · rw [if_pos (ge20 e)]
      subst e
      exact Or.inr ⟨h, rfl⟩
    · have hk : k < 20 := by omega
      rw [if_neg (lt20 hk)]
      simp only [if_pos (ix_nI hk (by decide)), cl_nI hk (by decide), nI_1]
      by_cases h1 : tk k = 0
      · rw [if_pos h1]
        exact Or.inl ⟨k, hk, h1, h, rfl⟩
      · rw [if_neg h1]
        refine ih (k + 1) (by omega) (by omega) (fun j hj => ?_)
        by_cases e2 : j = k
        · subst e2; exact h1
        · exact h j (by omega)
theorem ins_loop {tk xs ys : Nat → Int32} {kn x y : Int32} {m : Nat} (hm : m < 20) (h0 : tk m = 0) (hlt : ∀ j, j < m → tk j ≠ 0) : ∀ (n k : Nat), 20 - k < n → k ≤ m → f_N_insert_L25 n tk xs ys kn x y (nI k) = some (nI m, upd tk m 1, upd xs m x, upd ys m y, 0) := by
  intro n
  induction n with
  | zero => intro k h; exact absurd h (Nat.not_lt_zero _)
  | succ n ih =>
    intro k hn hk
    have hk2 : k < 20 := by omega
    rw [f_N_insert_L25, if_neg (lt20 hk2)]
    simp only [if_pos (ix_nI hk2 (by decide)), cl_nI hk2 (by decide), nI_1]
    by_cases e : k = m
    · subst e
      rw [if_pos h0]
    · rw [if_neg (hlt k (by omega))]
      exact ih (k + 1) (by omega) (by omega)
theorem ins_full {tk xs ys : Nat → Int32} {kn x y : Int32} (hf : ∀ j, j < 20 → tk j ≠ 0) : ∀ (n k : Nat), 20 - k < n → k ≤ 20 → f_N_insert_L25 n tk xs ys kn x y (nI k) = some (-4, tk, xs, ys, kn) := by
  intro n
  induction n with
  | zero => intro k h; exact absurd h (Nat.not_lt_zero _)
  | succ n ih =>
    intro k hn hk
    rw [f_N_insert_L25]
    by_cases e : k = 20
    · rw [if_pos (ge20 e)]
    · have hk2 : k < 20 := by omega
      rw [if_neg (lt20 hk2)]
      simp only [if_pos (ix_nI hk2 (by decide)), cl_nI hk2 (by decide), nI_1]
      rw [if_neg (hf k hk2)]
      exact ih (k + 1) (by omega) (by omega)
