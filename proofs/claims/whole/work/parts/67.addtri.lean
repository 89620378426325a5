/-! addTriangle: a key goes to its place. -/
theorem tri_put {ke fs : Nat → Int32} {rn mn : Int32} {K L : Nat} {g h : Nat → Nat} (hL : L < 35) (hg : ∀ k, k < L → g k < 2 ^ 20) (hK : K < 2 ^ 20) :
    ∀ (n p : Nat) (ke fs : Nat → Int32), p < n → p ≤ L → (∀ k, k < p → ke k = nI (g k) ∧ fs k = nI (h k)) → (∀ k, p ≤ k → k < L → ke (k + 1) = nI (g k) ∧ fs (k + 1) = nI (h k)) → (∀ k, p ≤ k → k < L → K < g k) →
    ∃ (q : Nat) (ke' fs' : Nat → Int32), f_M_addTriangle_L27 rn n ke fs mn (nI K) (nI p) = some (ke', fs', mn + 1) ∧ q ≤ L ∧ (∀ k, k < q → ke' k = nI (g k) ∧ fs' k = nI (h k)) ∧ (ke' q = nI K ∧ fs' q = rn) ∧ (∀ k, q ≤ k → k < L → ke' (k + 1) = nI (g k) ∧ fs' (k + 1) = nI (h k)) ∧ (∀ k, q ≤ k → k < L → K < g k) ∧ (∀ k, k + 1 = q → g k ≤ K) := by
  intro n
  induction n with
  | zero => intro p ke fs h; exact absurd h (Nat.not_lt_zero _)
  | succ n ih =>
    intro p ke fs hpn hp h1 h2 h3
    have stop : (∀ k, k + 1 = p → g k ≤ K) → ∃ (q : Nat) (ke' fs' : Nat → Int32), f_M_addTriangle_b84 rn ke fs mn (nI K) (nI p) = some (ke', fs', mn + 1) ∧ q ≤ L ∧ (∀ k, k < q → ke' k = nI (g k) ∧ fs' k = nI (h k)) ∧ (ke' q = nI K ∧ fs' q = rn) ∧ (∀ k, q ≤ k → k < L → ke' (k + 1) = nI (g k) ∧ fs' (k + 1) = nI (h k)) ∧ (∀ k, q ≤ k → k < L → K < g k) ∧ (∀ k, k + 1 = q → g k ≤ K) := by
      intro h4
      refine ⟨p, upd ke p (nI K), upd fs p rn, ?_, hp, ?_, ⟨upd_s, upd_s⟩, ?_, h3, h4⟩
      · unfold f_M_addTriangle_b84
        rw [if_pos (ix_nI (show p < 35 by omega) (by decide)), if_pos (ix_nI (show p < 35 by omega) (by decide)), cl_nI (show p < 35 by omega) (by decide)]
      · intro k hk
        rw [upd_n (by omega), upd_n (by omega)]; exact h1 k hk
      · intro k hk hk2
        rw [upd_n (by omega), upd_n (by omega)]; exact h2 k hk hk2
    rw [f_M_addTriangle_L27]
    cases p with
    | zero =>
      rw [if_pos (show nI 0 ≤ 0 by decide)]
      exact stop (fun k hk => by omega)
    | succ p =>
      have hb := hg p (by omega)
      rw [if_neg (nI_nle (by omega) (by omega)), show nI (p + 1) - 1 = nI p from nI_pred p]
      simp only [if_pos (ix_nI (show p < 35 by omega) (by decide)), cl_nI (show p < 35 by omega) (by decide), if_pos (ix_nI (show p + 1 < 35 by omega) (by decide)), cl_nI (show p + 1 < 35 by omega) (by decide), pk_m1, (h1 p (by omega)).1]
      by_cases hl : g p ≤ K
      · rw [if_pos (nI_le hl (by omega))]
        refine stop (fun k hk => ?_)
        have : k = p := by omega
        rw [this]; exact hl
      · rw [if_neg (nI_ge (by omega) (by omega))]
        refine ih p _ _ (by omega) (by omega) ?_ ?_ ?_
        · intro k hk
          rw [upd_n (by omega), upd_n (by omega)]; exact h1 k (by omega)
        · intro k hk hk2
          by_cases e : k = p
          · subst e
            rw [upd_s, upd_s]
            exact ⟨rfl, (h1 k (by omega)).2⟩
          · rw [upd_n (by omega), upd_n (by omega)]; exact h2 k (by omega) hk2
        · intro k hk hk2
          by_cases e : k = p
          · subst e; omega
          · exact h3 k (by omega) hk2
