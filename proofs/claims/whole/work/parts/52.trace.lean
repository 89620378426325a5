/-! trace: flat or not, and what stands in the row. -/
/-- all sites on one line, as the class asks it -/
def flatL (pt : Nat → Int × Int) (od : List Nat) : Prop := ∀ k, 2 ≤ k → k < od.length → ori (pt (od.getD 0 0)) (pt (od.getD 1 0)) (pt (od.getD k 0)) = 0
/-- both chains, top first; the way has come back to its beginning -/
def chain (pt : Nat → Int × Int) (od : List Nat) : List Nat := pushAll pt (pushAll pt [] od) (od.take (od.length - 1)).reverse
section T
variable {xs ys ord row : Nat → Int32} {pn on fl : Int32} {od : List Nat}
theorem line_loop (hx : B6 xs) (hy : B6 ys) (h20 : od.length ≤ 20) (hm : ∀ a ∈ od, a < 20) (ho : ∀ k, k < od.length → ord k = nI (od.getD k 0)) (hp : pn = nI od.length) : ∀ (n k : Nat), od.length - k < n → 2 ≤ k → (∀ j, 2 ≤ j → j < k → j < od.length → ori (ptf xs ys (od.getD 0 0)) (ptf xs ys (od.getD 1 0)) (ptf xs ys (od.getD j 0)) = 0) → k ≤ 20 →
    (f_O_allOnOneLine_L2 xs ys ord pn n (nI k) = some 1 ∧ flatL (ptf xs ys) od) ∨ (f_O_allOnOneLine_L2 xs ys ord pn n (nI k) = some 0 ∧ ¬ flatL (ptf xs ys) od) := by
  intro n
  induction n with
  | zero => intro k h; exact absurd h (Nat.not_lt_zero _)
  | succ n ih =>
    intro k hn h2 hj hk20
    rw [f_O_allOnOneLine_L2]
    dsimp only [Option.bind, f_P_size]
    by_cases e : od.length ≤ k
    · rw [if_pos (show pn ≤ nI k by rw [hp]; exact nI_le e (by omega))]
      exact Or.inl ⟨rfl, fun j a b => hj j a (by omega) b⟩
    · have hk : k < od.length := by omega
      rw [if_neg (show ¬ pn ≤ nI k by rw [hp]; exact nI_ge hk (by omega))]
      have i0 : f_P_inOrder ord 0 = some (nI (od.getD 0 0)) := s_inOrder h20 ho (k := 0) (by omega)
      have i1 : f_P_inOrder ord 1 = some (nI (od.getD 1 0)) := s_inOrder h20 ho (k := 1) (by omega)
      rw [i0, i1, s_inOrder h20 ho hk]
      dsimp only
      rw [s_side hx hy (hm _ (getD_mem (by omega))) (hm _ (getD_mem (by omega))) (hm _ (getD_mem hk))]
      dsimp only
      rcases sg_cases (ori (ptf xs ys (od.getD 0 0)) (ptf xs ys (od.getD 1 0)) (ptf xs ys (od.getD k 0))) with ⟨z, e2⟩ | ⟨z, e2⟩ | ⟨z, e2⟩
      · rw [e2, if_neg (by decide)]
        refine Or.inr ⟨rfl, fun q => ?_⟩
        have := q k h2 hk
        omega
      · rw [e2, if_pos (Eq.refl (0 : Int32)), nI_1]
        refine ih (k + 1) (by omega) (by omega) (fun j a b c => ?_) (by omega)
        by_cases e3 : j = k
        · rw [e3]; exact z
        · exact hj j a (by omega) c
      · rw [e2, if_neg (by decide)]
        refine Or.inr ⟨rfl, fun q => ?_⟩
        have := q k h2 hk
        omega
theorem pushAll_ne (pt : Nat → Int × Int) : ∀ (l R : List Nat), (R ≠ [] ∨ l ≠ []) → pushAll pt R l ≠ [] := by
  intro l
  induction l with
  | nil => intro R h; rw [pushAll]; exact h.resolve_right (fun q => q rfl)
  | cons s l ih => intro R _; rw [pushAll]; exact ih _ (Or.inl (by simp))
theorem s_trace (hx : B6 xs) (hy : B6 ys) (hI2 : ∀ a ∈ od, a < 20) (h20 : od.length ≤ 20) (ho : ∀ k, k < od.length → ord k = nI (od.getD k 0)) (hp : pn = nI od.length) :
    (∃ row', f_O_trace xs ys ord pn row on fl = some (row', nI (pushAll (ptf xs ys) [] od).length, 1) ∧ HRr (pushAll (ptf xs ys) [] od) row' ∧ flatL (ptf xs ys) od) ∨
    (∃ row', f_O_trace xs ys ord pn row on fl = some (row', nI (chain (ptf xs ys) od).length - 1, 0) ∧ HRr (chain (ptf xs ys) od) row' ∧ ¬ flatL (ptf xs ys) od) := by
  have hln := line_loop hx hy h20 hI2 ho hp 600 2 (by omega) (by omega) (fun j a b => by omega) (by omega)
  have hln : (f_O_allOnOneLine xs ys ord pn = some 1 ∧ flatL (ptf xs ys) od) ∨ (f_O_allOnOneLine xs ys ord pn = some 0 ∧ ¬ flatL (ptf xs ys) od) := hln
  have low : ∀ fl' : Int32, _ := fun fl' => low_loop (pn := pn) (fl := fl') hx hy h20 hI2 ho 600 0 [] row (by omega) (Nat.zero_le _) (Nat.le_refl _) (fun a h => absurd h List.not_mem_nil) trivial
  unfold f_O_trace
  rcases hln with ⟨e, hf⟩ | ⟨e, hf⟩
  · obtain ⟨row', e1, h1, -, -⟩ := low 1
    rw [List.drop_zero, if_neg (show ¬ (1 : Int32) = 0 by decide)] at e1
    rw [List.drop_zero] at h1
    rw [List.length_nil, nI_0, ← hp] at e1
    rw [e]
    dsimp only [Option.bind, f_P_size]
    rw [e1, if_pos (show z01 1 from Or.inr rfl)]
    exact Or.inl ⟨row', rfl, h1, hf⟩
  · obtain ⟨row', e1, h1, h2, h3⟩ := low 0
    rw [List.drop_zero, if_pos (Eq.refl (0 : Int32))] at e1
    rw [List.drop_zero] at h1 h2 h3
    have hpos : 0 < od.length := by
      rcases Nat.eq_zero_or_pos od.length with q | q
      · exact absurd (fun k a b => by omega) hf
      · exact q
    obtain ⟨row2, e2, h4⟩ := up_loop (pn := pn) (fl := 0) hx hy h20 hI2 ho 600 (od.length - 1) (pushAll (ptf xs ys) [] od) row' (by omega) (by omega) (by omega) h3 h1
    have e3 : nI od.length - 1 - 1 = nI (od.length - 1) - 1 := by
      rw [show nI od.length - 1 = nI (od.length - 1) by
        cases hq : od.length with
        | zero => omega
        | succ m => rw [nI_pred]; rfl]
    rw [e3, e2] at e1
    rw [List.length_nil, nI_0, ← hp] at e1
    rw [e]
    dsimp only [Option.bind, f_P_size]
    rw [e1, if_pos (show z01 0 from Or.inl rfl)]
    exact Or.inr ⟨row2, rfl, h4, hf⟩
end T
