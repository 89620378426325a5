/-! onward, later, earliest as loops. -/
section O
variable {xs ys tk : Nat → Int32} {p q : Nat}
def goodq (xs ys tk : Nat → Int32) (p q : Nat) : Prop := tk q ≠ 0 ∧ q ≠ p ∧ ∀ r, tk r ≠ 0 → 0 ≤ ori (ptf xs ys p) (ptf xs ys q) (ptf xs ys r)
theorem s_dist (hx : B6 xs) (hy : B6 ys) {a b : Nat} (ha : a < 20) (hb : b < 20) : ∃ v, f_N_distance xs ys (nI a) (nI b) = some v ∧ v.toInt = ds (ptf xs ys a) (ptf xs ys b) := by
  have xa := hx a
  have xb := hx b
  have ya := hy a
  have yb := hy b
  unfold f_N_distance
  simp only [if_pos (ix_nI ha (by decide)), if_pos (ix_nI hb (by decide)), cl_nI ha (by decide), cl_nI hb (by decide)]
  exact ⟨_, rfl, (l_sq (il (i_sub rfl rfl (by omega) (by omega))) (il (i_sub rfl rfl (by omega) (by omega))) ⟨by omega, by omega⟩ ⟨by omega, by omega⟩).1⟩
theorem cmp_ge {a b : Int64} {x y : Int} (ha : a.toInt = x) (hb : b.toInt = y) : 0 ≤ lg_cmp a b ↔ y ≤ x := by
  subst ha hb
  unfold lg_cmp
  by_cases h1 : a > b
  · have : b.toInt < a.toInt := Int64.lt_iff_toInt_lt.mp h1
    rw [if_pos h1]
    exact ⟨fun _ => by omega, fun _ => by decide⟩
  · have h1' : ¬ b.toInt < a.toInt := fun h => h1 (Int64.lt_iff_toInt_lt.mpr h)
    rw [if_neg h1]
    by_cases h2 : a = b
    · rw [if_pos h2, h2]
      exact ⟨fun _ => Int.le_refl _, fun _ => by decide⟩
    · have h2' : a.toInt ≠ b.toInt := fun h => h2 (Int64.toInt_inj.mp h)
      rw [if_neg h2]
      exact ⟨fun h => absurd h (by decide), fun h => by omega⟩
theorem good_loop {k4 : Int32 → Int32 → Int32 → Option Int32} {x2 : Int32} (hx : B6 xs) (hy : B6 ys) (h20 : ∀ i, tk i ≠ 0 → i < 20) (hp : p < 20) (hq : q < 20) : ∀ (n r : Nat), 20 - r < n → r ≤ 20 → (∀ z, z < r → tk z ≠ 0 → 0 ≤ ori (ptf xs ys p) (ptf xs ys q) (ptf xs ys z)) →
    (f_N_onward_L34 k4 tk xs ys n (nI p) x2 (nI q) 1 (nI r) = f_N_onward_b80 k4 tk xs ys (nI p) x2 (nI q) 1 ∧ ∀ z, tk z ≠ 0 → 0 ≤ ori (ptf xs ys p) (ptf xs ys q) (ptf xs ys z)) ∨ (f_N_onward_L34 k4 tk xs ys n (nI p) x2 (nI q) 1 (nI r) = f_N_onward_b80 k4 tk xs ys (nI p) x2 (nI q) 0 ∧ ∃ z, tk z ≠ 0 ∧ ori (ptf xs ys p) (ptf xs ys q) (ptf xs ys z) < 0) := by
  intro n
  induction n with
  | zero => intro r h; exact absurd h (Nat.not_lt_zero _)
  | succ n ih =>
    intro r hn hr h
    rw [f_N_onward_L34]
    by_cases e : r = 20
    · rw [if_pos (ge20 e)]
      subst e
      exact Or.inl ⟨rfl, fun z hz => h z (h20 z hz) hz⟩
    · have hr : r < 20 := by omega
      rw [if_neg (lt20 hr), if_neg (show ¬ (1 : Int32) = 0 by decide)]
      simp only [if_pos (ix_nI hr (by decide)), cl_nI hr (by decide), nI_1]
      have go : (tk r ≠ 0 → 0 ≤ ori (ptf xs ys p) (ptf xs ys q) (ptf xs ys r)) → ∀ z, z < r + 1 → tk z ≠ 0 → 0 ≤ ori (ptf xs ys p) (ptf xs ys q) (ptf xs ys z) := by
        intro hq' z hz ht
        by_cases e2 : z = r
        · subst e2; exact hq' ht
        · exact h z (by omega) ht
      by_cases h1 : tk r = 0
      · rw [if_pos h1]
        exact ih (r + 1) (by omega) (by omega) (go (fun q => absurd h1 q))
      · rw [if_neg h1, s_Nside hx hy hp hq hr]
        dsimp only [Option.bind]
        by_cases h2 : ori (ptf xs ys p) (ptf xs ys q) (ptf xs ys r) < 0
        · rw [if_pos (sg_lt.mpr h2)]
          refine Or.inr ⟨?_, r, h1, h2⟩
          cases n with
          | zero => omega
          | succ n =>
            rw [f_N_onward_L34]
            split
            · rfl
            · rw [if_pos (Eq.refl (0 : Int32))]
        · rw [if_neg (fun k => h2 (sg_lt.mp k))]
          exact ih (r + 1) (by omega) (by omega) (go (fun _ => by omega))
theorem zero_loop {k4 : Int32 → Int32 → Int32 → Option Int32} {x1 x2 x3 : Int32} {n : Nat} : f_N_onward_L34 k4 tk xs ys (n + 1) x1 x2 x3 0 0 = f_N_onward_b80 k4 tk xs ys x1 x2 x3 0 := by
  rw [f_N_onward_L34, if_neg (show ¬ (20 : Int32) ≤ 0 by decide), if_pos (Eq.refl (0 : Int32))]
theorem onw_loop (hx : B6 xs) (hy : B6 ys) (h20 : ∀ i, tk i ≠ 0 → i < 20) (hp : p < 20) {b : Nat} (hb : b < 20) (hgb : goodq xs ys tk p b) (hbest : ∀ q, goodq xs ys tk p q → q ≠ b → ds (ptf xs ys p) (ptf xs ys b) < ds (ptf xs ys p) (ptf xs ys q)) : ∀ (n k : Nat) (x2 : Int32), 20 - k < n → k ≤ 20 → ((b < k ∧ x2 = nI b) ∨ (k ≤ b ∧ (x2 = -1 ∨ ∃ c, c < 20 ∧ goodq xs ys tk p c ∧ c ≠ b ∧ x2 = nI c))) →
    f_N_onward_L4 tk xs ys n (nI p) x2 (nI k) = some (nI b) := by
  intro n
  induction n with
  | zero => intro k x2 h; exact absurd h (Nat.not_lt_zero _)
  | succ n ih =>
    intro k x2 hn hk h
    rw [f_N_onward_L4]
    by_cases e : k = 20
    · rw [if_pos (ge20 e)]
      rcases h with ⟨_, h⟩ | ⟨h, _⟩
      · rw [h]
      · omega
    · have hk : k < 20 := by omega
      rw [if_neg (lt20 hk)]
      simp only [if_pos (ix_nI hk (by decide)), cl_nI hk (by decide)]
      -- what the block behind the inner loop does
      have notgood : ¬ goodq xs ys tk p k → f_N_onward_b80 (fun x1 x2 x3 => f_N_onward_L4 tk xs ys n x1 x2 x3) tk xs ys (nI p) x2 (nI k) 0 = some (nI b) := by
        intro hg
        unfold f_N_onward_b80
        rw [if_pos (Eq.refl (0 : Int32)), nI_1]
        have hkb : k ≠ b := fun h => hg (h ▸ hgb)
        refine ih (k + 1) x2 (by omega) (by omega) ?_
        rcases h with ⟨h1, h2⟩ | ⟨h1, h2⟩
        · exact Or.inl ⟨by omega, h2⟩
        · exact Or.inr ⟨by omega, h2⟩
      have isgood : goodq xs ys tk p k → f_N_onward_b80 (fun x1 x2 x3 => f_N_onward_L4 tk xs ys n x1 x2 x3) tk xs ys (nI p) x2 (nI k) 1 = some (nI b) := by
        intro hg
        unfold f_N_onward_b80
        rw [if_neg (show ¬ (1 : Int32) = 0 by decide), nI_1]
        obtain ⟨v1, e1, z1⟩ := s_dist hx hy hp hk
        rcases h with ⟨h1, rfl⟩ | ⟨h1, rfl | ⟨c, c1, c2, c3, rfl⟩⟩
        · rw [if_neg (nI_pos (by omega))]
          obtain ⟨v2, e2, z2⟩ := s_dist hx hy hp hb
          rw [e1, e2]
          dsimp only [Option.bind]
          have := hbest k hg (by omega)
          rw [if_pos ((cmp_ge z1 z2).mpr (by omega))]
          exact ih (k + 1) (nI b) (by omega) (by omega) (Or.inl ⟨by omega, rfl⟩)
        · rw [if_pos (show (-1 : Int32) < 0 by decide)]
          refine ih (k + 1) (nI k) (by omega) (by omega) ?_
          by_cases hkb : k = b
          · exact Or.inl ⟨by omega, by rw [hkb]⟩
          · exact Or.inr ⟨by omega, Or.inr ⟨k, hk, hg, hkb, rfl⟩⟩
        · rw [if_neg (nI_pos (by omega))]
          obtain ⟨v2, e2, z2⟩ := s_dist hx hy hp c1
          rw [e1, e2]
          dsimp only [Option.bind]
          by_cases hcmp : 0 ≤ lg_cmp v1 v2
          · rw [if_pos hcmp]
            have hle := (cmp_ge z1 z2).mp hcmp
            have hkb : k ≠ b := fun h => by
              subst h
              have := hbest c c2 c3
              omega
            exact ih (k + 1) (nI c) (by omega) (by omega) (Or.inr ⟨by omega, Or.inr ⟨c, c1, c2, c3, rfl⟩⟩)
          · rw [if_neg hcmp]
            refine ih (k + 1) (nI k) (by omega) (by omega) ?_
            by_cases hkb : k = b
            · exact Or.inl ⟨by omega, by rw [hkb]⟩
            · exact Or.inr ⟨by omega, Or.inr ⟨k, hk, hg, hkb, rfl⟩⟩
      have z0 := zero_loop (tk := tk) (xs := xs) (ys := ys) (k4 := fun x1 x2 x3 => f_N_onward_L4 tk xs ys n x1 x2 x3) (x1 := nI p) (x2 := x2) (x3 := nI k) (n := 599)
      have gl := good_loop (k4 := fun x1 x2 x3 => f_N_onward_L4 tk xs ys n x1 x2 x3) (x2 := x2) hx hy h20 hp hk 600 0 (by omega) (Nat.zero_le _) (fun z hz => absurd hz (Nat.not_lt_zero _))
      rw [nI_0] at gl
      generalize f_N_onward_L34 (fun x1 x2 x3 => f_N_onward_L4 tk xs ys n x1 x2 x3) tk xs ys 600 (nI p) x2 (nI k) 1 0 = g1 at gl ⊢
      have z0' : f_N_onward_L34 (fun x1 x2 x3 => f_N_onward_L4 tk xs ys n x1 x2 x3) tk xs ys 600 (nI p) x2 (nI k) 0 0 = f_N_onward_b80 (fun x1 x2 x3 => f_N_onward_L4 tk xs ys n x1 x2 x3) tk xs ys (nI p) x2 (nI k) 0 := z0
      rw [z0']
      by_cases h1 : tk k = 0
      · rw [if_pos h1]
        exact notgood (fun q => q.1 h1)
      · rw [if_neg h1]
        by_cases h2 : k = p
        · rw [if_pos (by rw [h2])]
          exact notgood (fun q => q.2.1 h2)
        · rw [if_neg (nI_ne hk hp h2)]
          rcases gl with ⟨e2, hg⟩ | ⟨e2, z, hz1, hz2⟩
          · rw [e2]
            exact isgood ⟨h1, h2, hg⟩
          · rw [e2]
            exact notgood (fun q => by have := q.2.2 z hz1; omega)
/-- the reference goes on to the next of the way round -/
theorem s_onward (hI : PI xs ys tk) {b : Nat} (hp : tk p ≠ 0) (hb : tk b ≠ 0) (hN : Nx (ptf xs ys) (Sx tk) p b) (hnf : ∃ r, tk r ≠ 0 ∧ ori (ptf xs ys p) (ptf xs ys b) (ptf xs ys r) ≠ 0) : f_N_onward tk xs ys (nI p) = some (nI b) := by
  obtain ⟨r, hr1, hr2⟩ := hnf
  have hne : b ≠ p := fun h => by rw [h] at hN; exact hN.1.elim lex_ir lex_ir
  have := onw_loop (p := p) hI.1 hI.2.1 hI.2.2.2.1 (hI.2.2.2.1 p hp) (hI.2.2.2.1 b hb) ⟨hb, hne, hN.2.1⟩ (fun q hg hqb => nx_near hN hb hg.1 hr1 hr2 hg.2.2 (fun h => hg.2.1 (PI_dist hI q p hg.1 hp h)) (fun h => hqb (PI_dist hI q b hg.1 hb h))) 600 0 (-1) (by omega) (Nat.zero_le _) (Or.inr ⟨Nat.zero_le _, Or.inl rfl⟩)
  rw [nI_0] at this
  exact this
end O
