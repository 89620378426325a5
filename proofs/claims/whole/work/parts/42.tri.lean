/-! the reference's test of a triangle -/
/-- who is there -/
abbrev Sx (tk : Nat → Int32) (i : Nat) : Prop := tk i ≠ 0
def okd (xs ys tk : Nat → Int32) (a b c d : Nat) : Prop := tk d ≠ 0 → d ≠ a → d ≠ b → d ≠ c → inc (ptf xs ys a) (ptf xs ys b) (ptf xs ys c) (ptf xs ys d) ≤ 0 ∧ (inc (ptf xs ys a) (ptf xs ys b) (ptf xs ys c) (ptf xs ys d) = 0 → ¬ lex (ptf xs ys d) (ptf xs ys a) ∧ 0 ≤ ori (ptf xs ys b) (ptf xs ys c) (ptf xs ys d))
theorem nI_ne {a b : Nat} (ha : a < 20) (hb : b < 20) (h : a ≠ b) : ¬ nI a = nI b := fun e => h ((nI_eq (by omega) (by omega)).mp e)
theorem tri_loop {xs ys tk : Nat → Int32} (hx : B6 xs) (hy : B6 ys) {a b c : Nat} (ha : a < 20) (hb : b < 20) (hc : c < 20) : ∀ (n k : Nat), 20 - k < n → k ≤ 20 → (∀ j, j < k → okd xs ys tk a b c j) →
    (f_N_isTriangle_L61 tk xs ys n (nI a) (nI b) (nI c) (nI k) = some 1 ∧ ∀ d, d < 20 → okd xs ys tk a b c d) ∨ (f_N_isTriangle_L61 tk xs ys n (nI a) (nI b) (nI c) (nI k) = some 0 ∧ ∃ d, ¬ okd xs ys tk a b c d) := by
  intro n
  induction n with
  | zero => intro k h; exact absurd h (Nat.not_lt_zero _)
  | succ n ih =>
    intro k hn hk h
    rw [f_N_isTriangle_L61]
    by_cases e : k = 20
    · rw [if_pos (ge20 e)]
      subst e
      exact Or.inl ⟨rfl, h⟩
    · have hk : k < 20 := by omega
      rw [if_neg (lt20 hk)]
      simp only [if_pos (ix_nI hk (by decide)), cl_nI hk (by decide), nI_1]
      have go : okd xs ys tk a b c k → (f_N_isTriangle_L61 tk xs ys n (nI a) (nI b) (nI c) (nI (k + 1)) = some 1 ∧ ∀ d, d < 20 → okd xs ys tk a b c d) ∨ (f_N_isTriangle_L61 tk xs ys n (nI a) (nI b) (nI c) (nI (k + 1)) = some 0 ∧ ∃ d, ¬ okd xs ys tk a b c d) := by
        intro hq
        refine ih (k + 1) (by omega) (by omega) (fun j hj => ?_)
        by_cases e2 : j = k
        · rw [e2]; exact hq
        · exact h j (by omega)
      by_cases h1 : tk k = 0
      · rw [if_pos h1]; exact go (fun q => absurd h1 q)
      rw [if_neg h1]
      by_cases h2 : k = a
      · rw [if_pos (by rw [h2])]; exact go (fun _ q => absurd h2 q)
      rw [if_neg (nI_ne hk ha h2)]
      by_cases h3 : k = b
      · rw [if_pos (by rw [h3])]; exact go (fun _ _ q => absurd h3 q)
      rw [if_neg (nI_ne hk hb h3)]
      by_cases h4 : k = c
      · rw [if_pos (by rw [h4])]; exact go (fun _ _ _ q => absurd h4 q)
      rw [if_neg (nI_ne hk hc h4), s_Ncirc hx hy ha hb hc hk]
      dsimp only [Option.bind]
      rcases sg_cases (inc (ptf xs ys a) (ptf xs ys b) (ptf xs ys c) (ptf xs ys k)) with ⟨z, e⟩ | ⟨z, e⟩ | ⟨z, e⟩
      · rw [e, if_pos (by decide)]
        refine Or.inr ⟨rfl, k, fun q => ?_⟩
        have := (q h1 h2 h3 h4).1
        omega
      · rw [e, if_neg (by decide), if_pos rfl, s_Nearlier hk ha, s_Nside hx hy hb hc hk]
        dsimp only
        cases hl : lexb (ptf xs ys k) (ptf xs ys a)
        · rw [if_pos (show b01 false = 0 by decide)]
          rcases sg_cases (ori (ptf xs ys b) (ptf xs ys c) (ptf xs ys k)) with ⟨z2, e2⟩ | ⟨z2, e2⟩ | ⟨z2, e2⟩
          · rw [e2, if_pos (by decide)]
            exact go (fun _ _ _ _ => ⟨by omega, fun _ => ⟨lexb_f hl, by omega⟩⟩)
          · rw [e2, if_pos (by decide)]
            exact go (fun _ _ _ _ => ⟨by omega, fun _ => ⟨lexb_f hl, by omega⟩⟩)
          · rw [e2, if_neg (by decide)]
            refine Or.inr ⟨rfl, k, fun q => ?_⟩
            have := ((q h1 h2 h3 h4).2 z).2
            omega
        · rw [if_neg (show ¬ b01 true = 0 by decide)]
          refine Or.inr ⟨rfl, k, fun q => ?_⟩
          exact ((q h1 h2 h3 h4).2 z).1 (lexb_iff.mp hl)
      · rw [e, if_neg (by decide), if_neg (by decide)]
        exact go (fun _ _ _ _ => ⟨by omega, fun q => by omega⟩)
theorem s_isTri {xs ys tk : Nat → Int32} (hI : PI xs ys tk) {a b c : Nat} (ha : a < 20) (hb : b < 20) (hc : c < 20) :
    (f_N_isTriangle tk xs ys (nI a) (nI b) (nI c) = some 1 ∧ isT (Sx tk) (ptf xs ys) a b c) ∨ (f_N_isTriangle tk xs ys (nI a) (nI b) (nI c) = some 0 ∧ ¬ isT (Sx tk) (ptf xs ys) a b c) := by
  have hL := tri_loop (tk := tk) hI.1 hI.2.1 ha hb hc 600 0 (by omega) (by omega) (fun j hj => absurd hj (Nat.not_lt_zero _))
  rw [nI_0] at hL
  unfold f_N_isTriangle
  generalize f_N_isTriangle_L61 tk xs ys 600 (nI a) (nI b) (nI c) 0 = v at hL ⊢
  simp only [if_pos (ix_nI ha (by decide)), cl_nI ha (by decide), if_pos (ix_nI hb (by decide)), cl_nI hb (by decide), if_pos (ix_nI hc (by decide)), cl_nI hc (by decide)]
  by_cases h1 : tk a = 0
  · rw [if_pos h1]; exact Or.inr ⟨rfl, fun q => q.1 h1⟩
  rw [if_neg h1]
  by_cases h2 : tk b = 0
  · rw [if_pos h2]; exact Or.inr ⟨rfl, fun q => q.2.1 h2⟩
  rw [if_neg h2]
  by_cases h3 : tk c = 0
  · rw [if_pos h3]; exact Or.inr ⟨rfl, fun q => q.2.2.1 h3⟩
  rw [if_neg h3, s_Nside hI.1 hI.2.1 ha hb hc]
  dsimp only [Option.bind]
  rcases sg_cases (ori (ptf xs ys a) (ptf xs ys b) (ptf xs ys c)) with ⟨z, e⟩ | ⟨z, e⟩ | ⟨z, e⟩
  · rw [e, if_pos rfl, s_Nearlier ha hb, s_Nearlier ha hc]
    dsimp only
    cases hl : lexb (ptf xs ys a) (ptf xs ys b)
    · rw [if_pos (show b01 false = 0 by decide)]
      exact Or.inr ⟨rfl, fun q => lexb_f hl q.2.2.2.2.1⟩
    · rw [if_neg (show ¬ b01 true = 0 by decide)]
      cases hl2 : lexb (ptf xs ys a) (ptf xs ys c)
      · rw [if_pos (show b01 false = 0 by decide)]
        exact Or.inr ⟨rfl, fun q => lexb_f hl2 q.2.2.2.2.2.1⟩
      · rw [if_neg (show ¬ b01 true = 0 by decide)]
        rcases hL with ⟨e2, h⟩ | ⟨e2, d, h⟩
        · exact Or.inl ⟨e2, h1, h2, h3, z, lexb_iff.mp hl, lexb_iff.mp hl2, fun d hd => h d (hI.2.2.2.1 d hd) hd⟩
        · exact Or.inr ⟨e2, fun q => h (fun hd => q.2.2.2.2.2.2 d hd)⟩
  · rw [e, if_neg (by decide)]
    exact Or.inr ⟨rfl, fun q => by have := q.2.2.2.1; omega⟩
  · rw [e, if_neg (by decide)]
    exact Or.inr ⟨rfl, fun q => by have := q.2.2.2.1; omega⟩
