/-! earliest, later, and the reference's way round. -/
section R
variable {xs ys tk na nb nc : Nat → Int32} {kn ct : Int32}
theorem neg1 {a : Nat} (ha : a < 20) : ¬ nI a = -1 := fun h => by have := nI_pos (n := a) (by omega); rw [h] at this; exact this (by decide)
theorem earl_loop (hd : ∀ i j, tk i ≠ 0 → tk j ≠ 0 → i = j ∨ lex (ptf xs ys i) (ptf xs ys j) ∨ lex (ptf xs ys j) (ptf xs ys i)) : ∀ (n k : Nat) (x1 : Int32), 20 - k < n → k ≤ 20 → ((x1 = -1 ∧ ∀ j, j < k → tk j = 0) ∨ ∃ a, a < 20 ∧ tk a ≠ 0 ∧ x1 = nI a ∧ ∀ j, j < k → tk j ≠ 0 → a = j ∨ lex (ptf xs ys a) (ptf xs ys j)) →
    (f_N_earliest_L4 tk xs ys n x1 (nI k) = some (-1) ∧ ∀ j, j < 20 → tk j = 0) ∨ ∃ a, a < 20 ∧ tk a ≠ 0 ∧ f_N_earliest_L4 tk xs ys n x1 (nI k) = some (nI a) ∧ ∀ j, j < 20 → tk j ≠ 0 → a = j ∨ lex (ptf xs ys a) (ptf xs ys j) := by
  intro n
  induction n with
  | zero => intro k x1 h; exact absurd h (Nat.not_lt_zero _)
  | succ n ih =>
    intro k x1 hn hk h
    rw [f_N_earliest_L4]
    by_cases e : k = 20
    · rw [if_pos (ge20 e)]
      subst e
      rcases h with ⟨h1, h2⟩ | ⟨a, a1, a2, a3, a4⟩
      · exact Or.inl ⟨by rw [h1], h2⟩
      · exact Or.inr ⟨a, a1, a2, by rw [a3], a4⟩
    · have hk : k < 20 := by omega
      rw [if_neg (lt20 hk)]
      simp only [if_pos (ix_nI hk (by decide)), cl_nI hk (by decide), nI_1]
      by_cases h1 : tk k = 0
      · rw [if_pos h1]
        refine ih (k + 1) x1 (by omega) (by omega) ?_
        rcases h with ⟨g1, g2⟩ | ⟨a, a1, a2, a3, a4⟩
        · refine Or.inl ⟨g1, fun j hj => ?_⟩
          by_cases e2 : j = k
          · rw [e2]; exact h1
          · exact g2 j (by omega)
        · refine Or.inr ⟨a, a1, a2, a3, fun j hj ht => ?_⟩
          by_cases e2 : j = k
          · rw [e2] at ht; exact absurd h1 ht
          · exact a4 j (by omega) ht
      · rw [if_neg h1]
        rcases h with ⟨rfl, g2⟩ | ⟨a, a1, a2, rfl, a4⟩
        · rw [if_pos (show (-1 : Int32) < 0 by decide)]
          refine ih (k + 1) (nI k) (by omega) (by omega) (Or.inr ⟨k, hk, h1, rfl, fun j hj ht => ?_⟩)
          by_cases e2 : j = k
          · exact Or.inl e2.symm
          · exact absurd (g2 j (by omega)) ht
        · rw [if_neg (nI_pos (by omega)), s_Nearlier hk a1]
          dsimp only [Option.bind]
          cases hl : lexb (ptf xs ys k) (ptf xs ys a)
          · rw [if_pos (show b01 false = 0 by decide)]
            refine ih (k + 1) (nI a) (by omega) (by omega) (Or.inr ⟨a, a1, a2, rfl, fun j hj ht => ?_⟩)
            by_cases e2 : j = k
            · rw [e2]
              rcases hd a k a2 h1 with q | q | q
              · exact Or.inl q
              · exact Or.inr q
              · exact absurd q (lexb_f hl)
            · exact a4 j (by omega) ht
          · rw [if_neg (show ¬ b01 true = 0 by decide)]
            refine ih (k + 1) (nI k) (by omega) (by omega) (Or.inr ⟨k, hk, h1, rfl, fun j hj ht => ?_⟩)
            by_cases e2 : j = k
            · exact Or.inl e2.symm
            · rcases a4 j (by omega) ht with q | q
              · rw [← q]; exact Or.inr (lexb_iff.mp hl)
              · exact Or.inr (lex_tr (lexb_iff.mp hl) q)
theorem later_loop (hd : ∀ i j, tk i ≠ 0 → tk j ≠ 0 → i = j ∨ lex (ptf xs ys i) (ptf xs ys j) ∨ lex (ptf xs ys j) (ptf xs ys i)) {p : Nat} (hp : p < 20) : ∀ (n k : Nat) (x1 : Int32), 20 - k < n → k ≤ 20 → ((x1 = -1 ∧ ∀ j, j < k → tk j ≠ 0 → ¬ lex (ptf xs ys p) (ptf xs ys j)) ∨ ∃ a, a < 20 ∧ tk a ≠ 0 ∧ lex (ptf xs ys p) (ptf xs ys a) ∧ x1 = nI a ∧ ∀ j, j < k → tk j ≠ 0 → lex (ptf xs ys p) (ptf xs ys j) → a = j ∨ lex (ptf xs ys a) (ptf xs ys j)) →
    (f_N_later_L4 tk xs ys n (nI p) x1 (nI k) = some (-1) ∧ ∀ j, j < 20 → tk j ≠ 0 → ¬ lex (ptf xs ys p) (ptf xs ys j)) ∨ ∃ a, a < 20 ∧ tk a ≠ 0 ∧ lex (ptf xs ys p) (ptf xs ys a) ∧ f_N_later_L4 tk xs ys n (nI p) x1 (nI k) = some (nI a) ∧ ∀ j, j < 20 → tk j ≠ 0 → lex (ptf xs ys p) (ptf xs ys j) → a = j ∨ lex (ptf xs ys a) (ptf xs ys j) := by
  intro n
  induction n with
  | zero => intro k x1 h; exact absurd h (Nat.not_lt_zero _)
  | succ n ih =>
    intro k x1 hn hk h
    rw [f_N_later_L4]
    by_cases e : k = 20
    · rw [if_pos (ge20 e)]
      subst e
      rcases h with ⟨h1, h2⟩ | ⟨a, a1, a2, a0, a3, a4⟩
      · exact Or.inl ⟨by rw [h1], h2⟩
      · exact Or.inr ⟨a, a1, a2, a0, by rw [a3], a4⟩
    · have hk : k < 20 := by omega
      rw [if_neg (lt20 hk)]
      simp only [if_pos (ix_nI hk (by decide)), cl_nI hk (by decide), nI_1]
      have skip : ¬ (tk k ≠ 0 ∧ lex (ptf xs ys p) (ptf xs ys k)) → ((x1 = -1 ∧ ∀ j, j < k + 1 → tk j ≠ 0 → ¬ lex (ptf xs ys p) (ptf xs ys j)) ∨ ∃ a, a < 20 ∧ tk a ≠ 0 ∧ lex (ptf xs ys p) (ptf xs ys a) ∧ x1 = nI a ∧ ∀ j, j < k + 1 → tk j ≠ 0 → lex (ptf xs ys p) (ptf xs ys j) → a = j ∨ lex (ptf xs ys a) (ptf xs ys j)) := by
        intro hno
        rcases h with ⟨g1, g2⟩ | ⟨a, a1, a2, a0, a3, a4⟩
        · refine Or.inl ⟨g1, fun j hj ht hl => ?_⟩
          by_cases e2 : j = k
          · rw [e2] at ht hl; exact hno ⟨ht, hl⟩
          · exact g2 j (by omega) ht hl
        · refine Or.inr ⟨a, a1, a2, a0, a3, fun j hj ht hl => ?_⟩
          by_cases e2 : j = k
          · rw [e2] at ht hl; exact absurd ⟨ht, hl⟩ hno
          · exact a4 j (by omega) ht hl
      by_cases h1 : tk k = 0
      · rw [if_pos h1]
        exact ih (k + 1) x1 (by omega) (by omega) (skip (fun q => q.1 h1))
      · rw [if_neg h1, s_Nearlier hp hk]
        dsimp only [Option.bind]
        cases hl : lexb (ptf xs ys p) (ptf xs ys k)
        · rw [if_pos (show b01 false = 0 by decide)]
          exact ih (k + 1) x1 (by omega) (by omega) (skip (fun q => lexb_f hl q.2))
        · rw [if_neg (show ¬ b01 true = 0 by decide)]
          have hpk := lexb_iff.mp hl
          rcases h with ⟨rfl, g2⟩ | ⟨a, a1, a2, a0, rfl, a4⟩
          · rw [if_pos (show (-1 : Int32) < 0 by decide)]
            refine ih (k + 1) (nI k) (by omega) (by omega) (Or.inr ⟨k, hk, h1, hpk, rfl, fun j hj ht hlj => ?_⟩)
            by_cases e2 : j = k
            · exact Or.inl e2.symm
            · exact absurd hlj (g2 j (by omega) ht)
          · rw [if_neg (nI_pos (by omega)), s_Nearlier hk a1]
            dsimp only
            cases hl2 : lexb (ptf xs ys k) (ptf xs ys a)
            · rw [if_pos (show b01 false = 0 by decide)]
              refine ih (k + 1) (nI a) (by omega) (by omega) (Or.inr ⟨a, a1, a2, a0, rfl, fun j hj ht hlj => ?_⟩)
              by_cases e2 : j = k
              · rw [e2]
                rcases hd a k a2 h1 with q | q | q
                · exact Or.inl q
                · exact Or.inr q
                · exact absurd q (lexb_f hl2)
              · exact a4 j (by omega) ht hlj
            · rw [if_neg (show ¬ b01 true = 0 by decide)]
              refine ih (k + 1) (nI k) (by omega) (by omega) (Or.inr ⟨k, hk, h1, hpk, rfl, fun j hj ht hlj => ?_⟩)
              by_cases e2 : j = k
              · exact Or.inl e2.symm
              · rcases a4 j (by omega) ht hlj with q | q
                · rw [← q]; exact Or.inr (lexb_iff.mp hl2)
                · exact Or.inr (lex_tr (lexb_iff.mp hl2) q)
/-- where the reference goes from a site -/
def stepN (xs ys tk : Nat → Int32) (ct : Int32) (p : Nat) : Option Int32 := if ct = 0 then f_N_later tk xs ys (nI p) else f_N_onward tk xs ys (nI p)
theorem round_loop {B : List Nat} (h20 : B.length ≤ 20) (hB : ∀ a ∈ B, a < 20) (hnx : ∀ i, i + 1 < B.length → stepN xs ys tk ct (B.getD i 0) = some (nI (B.getD (i + 1) 0))) (hlast : ∀ i, i + 1 = B.length → stepN xs ys tk ct (B.getD i 0) = some (-1) ∨ stepN xs ys tk ct (B.getD i 0) = some (nI (B.getD 0 0))) (hne : ∀ i, 0 < i → i < B.length → B.getD i 0 ≠ B.getD 0 0) :
    ∀ (n i : Nat) (ed : Nat → Int32), B.length - i + 1 < n → i < B.length → (∀ j, j < i → ed j = nI (B.getD j 0)) →
    ∃ ed', f_N_goRound_L16 tk xs ys n kn ct na nb nc (nI i) ed (nI (B.getD 0 0)) (nI (B.getD i 0)) = some (kn, ct, na, nb, nc, nI B.length, ed') ∧ ∀ j, j < B.length → ed' j = nI (B.getD j 0) := by
  intro n
  induction n with
  | zero => intro i ed h; exact absurd h (Nat.not_lt_zero _)
  | succ n ih =>
    intro i ed hn hi hed
    have hb := hB _ (getD_mem hi)
    have h0 := hB _ (getD_mem (show 0 < B.length by omega))
    have hed' : ∀ j, j < i + 1 → upd ed i (nI (B.getD i 0)) j = nI (B.getD j 0) := by
      intro j hj
      by_cases e : j = i
      · rw [e, upd_s]
      · rw [upd_n e]; exact hed j (by omega)
    rw [f_N_goRound_L16, if_neg (nI_pos (by omega)), if_neg (lt20 (by omega)), if_pos (ix_nI (show i < 20 by omega) (by decide)), cl_nI (show i < 20 by omega) (by decide), nI_1]
    have comb : ∀ (z : Int32) (K : Int32 → Option (Int32 × Int32 × (Nat → Int32) × (Nat → Int32) × (Nat → Int32) × Int32 × (Nat → Int32))), stepN xs ys tk ct (B.getD i 0) = some z → (if ct = 0 then (f_N_later tk xs ys (nI (B.getD i 0))).bind K else (f_N_onward tk xs ys (nI (B.getD i 0))).bind K) = K z := by
      intro z K hz
      unfold stepN at hz
      split at hz
      · rename_i hc
        rw [if_pos hc, hz]; rfl
      · rename_i hc
        rw [if_neg hc, hz]; rfl
    by_cases hl : i + 1 = B.length
    · have done : ∃ ed', f_N_goRound_L16 tk xs ys n kn ct na nb nc (nI (i + 1)) (upd ed i (nI (B.getD i 0))) (nI (B.getD 0 0)) (-1) = some (kn, ct, na, nb, nc, nI B.length, ed') ∧ ∀ j, j < B.length → ed' j = nI (B.getD j 0) := by
        cases n with
        | zero => omega
        | succ n =>
          rw [f_N_goRound_L16, if_pos (show (-1 : Int32) < 0 by decide), hl]
          exact ⟨_, rfl, fun j hj => hed' j (by omega)⟩
      rcases hlast i hl with e | e
      · rw [comb _ _ e]
        unfold f_N_goRound_b69
        rw [if_neg (fun h => neg1 h0 h.symm)]
        exact done
      · rw [comb _ _ e]
        unfold f_N_goRound_b69
        rw [if_pos (Eq.refl (nI (B.getD 0 0)))]
        exact done
    · rw [comb _ _ (hnx i (by omega))]
      unfold f_N_goRound_b69
      have hb1 := hB _ (getD_mem (show i + 1 < B.length by omega))
      rw [if_neg (nI_ne hb1 h0 (hne (i + 1) (by omega) (by omega)))]
      exact ih (i + 1) _ (by omega) (by omega) hed'
end R
