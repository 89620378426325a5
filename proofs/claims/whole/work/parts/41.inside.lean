/-! inside -/
theorem sg_cases (z : Int) : (0 < z ∧ sg z = 1) ∨ (z = 0 ∧ sg z = 0) ∨ (z < 0 ∧ sg z = -1) := by
  rcases Int.lt_trichotomy z 0 with h | h | h
  · exact Or.inr (Or.inr ⟨h, sg_neg h⟩)
  · exact Or.inr (Or.inl ⟨h, by rw [h]; rfl⟩)
  · exact Or.inl ⟨h, sg_pos h⟩
theorem sg_opp (z : Int) : sg (-z) = -1 * sg z := by
  rcases sg_cases z with ⟨h, e⟩ | ⟨h, e⟩ | ⟨h, e⟩
  · rw [e, sg_neg (by omega)]; rfl
  · rw [h]; rfl
  · rw [e, sg_pos (by omega)]; rfl
theorem inc_mid (a b c d : Int × Int) : inc a c b d = - inc a b c d := by unfold inc; grind
theorem op_inside {xs ys tk : Nat → Int32} (hI : PI xs ys tk) (x1 x2 x3 x4 : Int32) : ∃ r, f_F_inside xs ys tk x1 x2 x3 x4 = some r ∧ f_N_inside tk xs ys x1 x2 x3 x4 = some r := by
  unfold f_F_inside f_N_inside
  simp only [N_is]
  rcases has_cases tk x1 with ⟨a, ha, rfl, -, e1⟩ | ⟨e1, -⟩
  · rw [e1]
    dsimp only [Option.bind]
    rw [if_neg (show ¬ (1 : Int32) = 0 by decide), if_neg (show ¬ (1 : Int32) = 0 by decide)]
    rcases has_cases tk x2 with ⟨b, hb, rfl, -, e2⟩ | ⟨e2, -⟩
    · rw [e2]
      dsimp only
      rw [if_neg (show ¬ (1 : Int32) = 0 by decide), if_neg (show ¬ (1 : Int32) = 0 by decide)]
      rcases has_cases tk x3 with ⟨c, hc, rfl, -, e3⟩ | ⟨e3, -⟩
      · rw [e3]
        dsimp only
        rw [if_neg (show ¬ (1 : Int32) = 0 by decide), if_neg (show ¬ (1 : Int32) = 0 by decide)]
        rcases has_cases tk x4 with ⟨d, hd, rfl, -, e4⟩ | ⟨e4, -⟩
        · rw [e4, s_side hI.1 hI.2.1 ha hb hc, s_Nside hI.1 hI.2.1 ha hb hc]
          dsimp only
          rw [if_neg (show ¬ (1 : Int32) = 0 by decide), if_neg (show ¬ (1 : Int32) = 0 by decide), s_circ hI.1 hI.2.1 ha hb hc hd, s_Ncirc hI.1 hI.2.1 ha hb hc hd, s_Ncirc hI.1 hI.2.1 ha hc hb hd, inc_mid (ptf xs ys a) (ptf xs ys b) (ptf xs ys c) (ptf xs ys d), sg_opp]
          dsimp only
          generalize sg (inc (ptf xs ys a) (ptf xs ys b) (ptf xs ys c) (ptf xs ys d)) = w
          rcases sg_cases (ori (ptf xs ys a) (ptf xs ys b) (ptf xs ys c)) with ⟨-, e⟩ | ⟨-, e⟩ | ⟨-, e⟩
          · rw [e]
            refine ⟨w, ?_, rfl⟩
            rw [if_neg (show ¬ (1 : Int32) = 0 by decide)]
            simp
          · rw [e]
            exact ⟨2, rfl, rfl⟩
          · rw [e]
            exact ⟨-1 * w, rfl, rfl⟩
        · rw [e4]
          exact ⟨2, rfl, rfl⟩
      · rw [e3]
        exact ⟨2, rfl, rfl⟩
    · rw [e2]
      exact ⟨2, rfl, rfl⟩
  · rw [e1]
    exact ⟨2, rfl, rfl⟩
