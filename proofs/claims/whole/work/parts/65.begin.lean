/-! begin: links along a line, or the boundary's edges awaited. -/
theorem s_at {B : List Nat} {row : Nat → Int32} {on : Int32} (hU : UI B row on) {k : Nat} (hk : k < B.length) : f_O_at row (nI k) = some (nI (B.getD k 0)) := by
  obtain ⟨-, u2, u3⟩ := hU
  unfold f_O_at
  rw [if_pos (ix_nI (show k < 40 by omega) (by decide)), cl_nI (show k < 40 by omega) (by decide), u3 k hk]
theorem line_links {B : List Nat} {row : Nat → Int32} {on : Int32} (hU : UI B row on) (hB : ∀ a ∈ B, a < 20) : ∀ (n k : Nat) (li : Nat → Int32) (lk : Nat → Nat → Prop), B.length - k < n → 1 ≤ k → (k ≤ B.length ∨ k = 1) → LK lk li → (∀ x y, lk x y ↔ ∃ i, 0 < i ∧ i < k ∧ i < B.length ∧ ((x = B.getD (i - 1) 0 ∧ y = B.getD i 0) ∨ (x = B.getD i 0 ∧ y = B.getD (i - 1) 0))) →
    ∃ li', f_M_linkLine_L2 row on n li (nI k) = some li' ∧ LK (fun x y => ∃ i, 0 < i ∧ i < B.length ∧ ((x = B.getD (i - 1) 0 ∧ y = B.getD i 0) ∨ (x = B.getD i 0 ∧ y = B.getD (i - 1) 0))) li' := by
  have h20 := hU.2.1
  intro n
  induction n with
  | zero => intro k li lk h; exact absurd h (Nat.not_lt_zero _)
  | succ n ih =>
    intro k li lk hn h1 hk hL hlk
    rw [f_M_linkLine_L2]
    dsimp only [Option.bind, f_O_size]
    by_cases e : B.length ≤ k
    · rw [if_pos (show on ≤ nI k by rw [hU.1]; exact nI_le e (by omega))]
      refine ⟨li, rfl, ?_⟩
      have : lk = (fun x y => ∃ i, 0 < i ∧ i < B.length ∧ ((x = B.getD (i - 1) 0 ∧ y = B.getD i 0) ∨ (x = B.getD i 0 ∧ y = B.getD (i - 1) 0))) := by
        funext x y
        apply propext
        rw [hlk x y]
        exact ⟨fun ⟨i, a, _, c, d⟩ => ⟨i, a, c, d⟩, fun ⟨i, a, c, d⟩ => ⟨i, a, by omega, c, d⟩⟩
      rw [← this]
      exact hL
    · have hk' : k < B.length := by omega
      have e1 : nI k - 1 = nI (k - 1) := by
        cases k with
        | zero => omega
        | succ k => exact nI_pred k
      have b1 := hB _ (getD_mem (show k - 1 < B.length by omega))
      have b2 := hB _ (getD_mem hk')
      obtain ⟨li1, f1, L1⟩ := s_link hL b1 b2
      obtain ⟨li2, f2, L2⟩ := s_link L1 b2 b1
      rw [if_neg (show ¬ on ≤ nI k by rw [hU.1]; exact nI_ge hk' (by omega)), e1, s_at hU (show k - 1 < B.length by omega), s_at hU hk']
      dsimp only
      rw [f1]
      dsimp only
      rw [f2]
      dsimp only
      rw [nI_1]
      refine ih (k + 1) li2 _ (by omega) (by omega) (Or.inl (by omega)) L2 (fun x y => ?_)
      rw [hlk x y]
      constructor
      · rintro ((⟨i, a, b, c, d⟩ | d) | d)
        · exact ⟨i, a, by omega, c, d⟩
        · exact ⟨k, by omega, by omega, hk', Or.inl d⟩
        · exact ⟨k, by omega, by omega, hk', Or.inr d⟩
      · rintro ⟨i, a, b, c, d⟩
        by_cases q : i = k
        · subst q
          rcases d with d | d
          · exact Or.inl (Or.inr d)
          · exact Or.inr d
        · exact Or.inl (Or.inl ⟨i, a, by omega, c, d⟩)
theorem s_linkLine {B : List Nat} {row li : Nat → Int32} {on : Int32} (hU : UI B row on) (hB : ∀ a ∈ B, a < 20) (hL : LK (fun _ _ => False) li) :
    ∃ li', f_M_linkLine row on li = some li' ∧ LK (fun x y => ∃ i, 0 < i ∧ i < B.length ∧ ((x = B.getD (i - 1) 0 ∧ y = B.getD i 0) ∨ (x = B.getD i 0 ∧ y = B.getD (i - 1) 0))) li' := by
  have h20 := hU.2.1
  have h := line_links hU hB 600 1 li (fun _ _ => False) (by omega) (Nat.le_refl _) (Or.inr rfl) hL (fun x y => ⟨fun q => q.elim, fun ⟨i, a, b, _⟩ => by omega⟩)
  have e : nI 1 = 1 := by decide
  rw [e] at h
  exact h
