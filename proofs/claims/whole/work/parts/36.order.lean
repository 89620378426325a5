/-! The row of slots in order: put and drop. -/
theorem upd_s {f : Nat → Int32} {k : Nat} {x : Int32} : upd f k x k = x := pk_us
theorem upd_n {f : Nat → Int32} {k j : Nat} {x : Int32} (h : j ≠ k) : upd f k x j = f j := pk_un h
theorem b01_t {b : Bool} (h : b01 b = 0) : b = false := by cases b; rfl; cases h
theorem b01_f {b : Bool} (h : ¬ b01 b = 0) : b = true := by cases b; exact absurd rfl h; rfl
theorem put_loop {xs ys tk : Nat → Int32} {pn : Int32} {od : List Nat} {slot : Nat} (hs : slot < 20) (hlen : od.length < 20) (hod : ∀ k, k < od.length → od.getD k 0 < 20) :
    ∀ (n p : Nat) (o : Nat → Int32), p < n → p ≤ od.length → (∀ k, k < p → o k = nI (od.getD k 0)) → (∀ k, p ≤ k → k < od.length → o (k + 1) = nI (od.getD k 0)) → (∀ k, p ≤ k → k < od.length → lex (ptf xs ys slot) (ptf xs ys (od.getD k 0))) →
    ∃ (q : Nat) (o' : Nat → Int32), f_P_put_L27 n xs ys tk o pn (nI slot) (nI p) = some (xs, ys, tk, o', pn + 1) ∧ q ≤ od.length ∧ (∀ k, k < q → o' k = nI (od.getD k 0)) ∧ o' q = nI slot ∧ (∀ k, q ≤ k → k < od.length → o' (k + 1) = nI (od.getD k 0)) ∧ (∀ k, q ≤ k → k < od.length → lex (ptf xs ys slot) (ptf xs ys (od.getD k 0))) ∧ (∀ k, k + 1 = q → ¬ lex (ptf xs ys slot) (ptf xs ys (od.getD k 0))) := by
  intro n
  induction n with
  | zero => intro p o h; exact absurd h (Nat.not_lt_zero _)
  | succ n ih =>
    intro p o hpn hp h1 h2 h3
    have stop : (∀ k, k + 1 = p → ¬ lex (ptf xs ys slot) (ptf xs ys (od.getD k 0))) → ∃ (q : Nat) (o' : Nat → Int32), f_P_put_b71 xs ys tk o pn (nI slot) (nI p) = some (xs, ys, tk, o', pn + 1) ∧ q ≤ od.length ∧ (∀ k, k < q → o' k = nI (od.getD k 0)) ∧ o' q = nI slot ∧ (∀ k, q ≤ k → k < od.length → o' (k + 1) = nI (od.getD k 0)) ∧ (∀ k, q ≤ k → k < od.length → lex (ptf xs ys slot) (ptf xs ys (od.getD k 0))) ∧ (∀ k, k + 1 = q → ¬ lex (ptf xs ys slot) (ptf xs ys (od.getD k 0))) := by
      intro h4
      refine ⟨p, upd o p (nI slot), ?_, hp, ?_, upd_s, ?_, h3, h4⟩
      · unfold f_P_put_b71
        rw [if_pos (ix_nI (show p < 20 by omega) (by decide)), cl_nI (show p < 20 by omega) (by decide)]
      · intro k hk
        rw [upd_n (by omega)]; exact h1 k hk
      · intro k hk hk2
        rw [upd_n (by omega)]; exact h2 k hk hk2
    rw [f_P_put_L27]
    cases p with
    | zero =>
      rw [if_pos (show nI 0 ≤ 0 by decide)]
      exact stop (fun k hk => by omega)
    | succ p =>
      have hb : od.getD p 0 < 20 := hod p (by omega)
      rw [if_neg (nI_nle (by omega) (by omega)), show nI (p + 1) - 1 = nI p from nI_pred p, if_pos (ix_nI (show p < 20 by omega) (by decide)), cl_nI (show p < 20 by omega) (by decide), h1 p (by omega), s_earlier hs hb]
      dsimp only [Option.bind]
      by_cases hl : lexb (ptf xs ys slot) (ptf xs ys (od.getD p 0)) = true
      · rw [hl, if_neg (show ¬ b01 true = 0 by decide), if_pos (ix_nI (show p < 20 by omega) (by decide)), if_pos (ix_nI (show p + 1 < 20 by omega) (by decide)), cl_nI (show p + 1 < 20 by omega) (by decide), pk_m1]
        refine ih p _ (by omega) (by omega) ?_ ?_ ?_
        · intro k hk
          rw [upd_n (by omega)]; exact h1 k (by omega)
        · intro k hk hk2
          by_cases e : k = p
          · subst e
            rw [upd_s]
          · rw [upd_n (by omega)]; exact h2 k (by omega) hk2
        · intro k hk hk2
          by_cases e : k = p
          · subst e
            exact lexb_iff.mp hl
          · exact h3 k (by omega) hk2
      · have hl' : lexb (ptf xs ys slot) (ptf xs ys (od.getD p 0)) = false := by simpa using hl
        rw [hl', if_pos (show b01 false = 0 by decide)]
        refine stop (fun k hk => ?_)
        have : k = p := by omega
        subst this
        exact lexb_f hl'
/-- the row holds the slots that are taken, earlier ones first -/
def OI (xs ys tk ord : Nat → Int32) (pn : Int32) (od : List Nat) : Prop := pn = nI od.length ∧ (∀ k, k < od.length → ord k = nI (od.getD k 0)) ∧ od.Pairwise (fun a b => lex (ptf xs ys a) (ptf xs ys b)) ∧ (∀ i, i ∈ od ↔ tk i ≠ 0)
theorem getD_mem {od : List Nat} {k : Nat} (h : k < od.length) : od.getD k 0 ∈ od := by
  rw [List.getD_eq_getElem?_getD, List.getElem?_eq_getElem h]
  exact List.getElem_mem h
theorem pw_nodup {od : List Nat} {pt : Nat → Int × Int} (h : od.Pairwise (fun a b => lex (pt a) (pt b))) : od.Nodup := List.Pairwise.imp (fun hl e => by rw [e] at hl; exact lex_ir hl) h
theorem od_len {od : List Nat} (h : od.Nodup) (h2 : ∀ i ∈ od, i < 20) : od.length ≤ 20 := by
  have := List.Nodup.length_le_of_subset h (l₂ := List.range 20) (fun i hi => List.mem_range.mpr (h2 i hi))
  rw [List.length_range] at this
  exact this
