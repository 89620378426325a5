/-! The class's trace, as stacks of slots. -/
def pushAll (pt : Nat → Int × Int) : List Nat → List Nat → List Nat
  | R, [] => R
  | R, s :: ss => pushAll pt (s :: popR pt R s) ss
theorem popR_mem (pt : Nat → Int × Int) (s : Nat) : ∀ (R : List Nat) (a : Nat), a ∈ popR pt R s → a ∈ R := by
  intro R
  induction R with
  | nil => intro a h; exact h
  | cons b R ih =>
    cases R with
    | nil => intro a h; exact h
    | cons c R =>
      intro a h
      rw [popR] at h
      split at h
      · exact List.mem_cons_of_mem _ (ih a h)
      · exact h
section T
variable {xs ys ord : Nat → Int32} {pn fl : Int32} {od : List Nat}
theorem s_inOrder (h20 : od.length ≤ 20) (ho : ∀ k, k < od.length → ord k = nI (od.getD k 0)) {k : Nat} (hk : k < od.length) : f_P_inOrder ord (nI k) = some (nI (od.getD k 0)) := by
  unfold f_P_inOrder
  rw [if_pos (ix_nI (show k < 20 by omega) (by decide)), cl_nI (show k < 20 by omega) (by decide), ho k hk]
theorem drop_k {k : Nat} (hk : k < od.length) : od.drop k = od.getD k 0 :: od.drop (k + 1) := by
  rw [List.drop_eq_getElem_cons hk, List.getD_eq_getElem?_getD, List.getElem?_eq_getElem hk]
  rfl
theorem s_push (hx : B6 xs) (hy : B6 ys) {s : Nat} (hs : s < 20) {R : List Nat} {row : Nat → Int32} (h40 : R.length < 40) (h20 : ∀ a ∈ R, a < 20) (hH : HRr R row) :
    ∃ row', f_O_push xs ys row (nI R.length) (nI s) = some (row', nI (s :: popR (ptf xs ys) R s).length) ∧ HRr (s :: popR (ptf xs ys) R s) row' := push_loop hx hy hs 600 R (by omega) h40 h20 hH
theorem up_loop (hx : B6 xs) (hy : B6 ys) (h20 : od.length ≤ 20) (hm : ∀ a ∈ od, a < 20) (ho : ∀ k, k < od.length → ord k = nI (od.getD k 0)) : ∀ (n k : Nat) (R : List Nat) (row : Nat → Int32), k < n → k ≤ od.length → R.length + k < 40 → (∀ a ∈ R, a < 20) → HRr R row →
    ∃ row', f_O_trace_L55 xs ys ord pn n row (nI R.length) fl (nI k - 1) = some (row', nI (pushAll (ptf xs ys) R (od.take k).reverse).length - 1, fl) ∧ HRr (pushAll (ptf xs ys) R (od.take k).reverse) row' := by
  intro n
  induction n with
  | zero => intro k R row h; exact absurd h (Nat.not_lt_zero _)
  | succ n ih =>
    intro k R row hn hk h40 hR hH
    rw [f_O_trace_L55]
    cases k with
    | zero =>
      rw [if_pos (show nI 0 - 1 < (0 : Int32) by decide)]
      exact ⟨row, rfl, hH⟩
    | succ k =>
      have hb := hm _ (getD_mem (show k < od.length by omega))
      obtain ⟨row1, e1, h1⟩ := s_push hx hy hb (R := R) (row := row) (by omega) hR hH
      have hpl := popR_le (ptf xs ys) (od.getD k 0) R
      rw [show nI (k + 1) - 1 = nI k from nI_pred k, if_neg (nI_pos (by omega)), s_inOrder h20 ho (by omega)]
      dsimp only [Option.bind]
      rw [e1]
      dsimp only
      have ht : (od.take (k + 1)).reverse = od.getD k 0 :: (od.take k).reverse := by
        rw [List.take_succ_eq_append_getElem (show k < od.length by omega), List.reverse_append, List.getD_eq_getElem?_getD, List.getElem?_eq_getElem (show k < od.length by omega)]
        rfl
      rw [ht, pushAll, show nI k + -1 = nI k - 1 by simp [Int32.sub_eq_add_neg]]
      exact ih k (od.getD k 0 :: popR (ptf xs ys) R (od.getD k 0)) row1 (by omega) (by omega) (by rw [List.length_cons]; omega) (fun a ha => by
        rcases List.mem_cons.mp ha with rfl | ha
        · exact hb
        · exact hR a (popR_mem _ _ _ _ ha)) h1
theorem low_loop (hx : B6 xs) (hy : B6 ys) (h20 : od.length ≤ 20) (hm : ∀ a ∈ od, a < 20) (ho : ∀ k, k < od.length → ord k = nI (od.getD k 0)) : ∀ (n k : Nat) (R : List Nat) (row : Nat → Int32), od.length - k < n → k ≤ od.length → R.length ≤ k → (∀ a ∈ R, a < 20) → HRr R row →
    ∃ row', f_O_trace_L22 xs ys ord pn n row (nI R.length) fl (nI od.length - 1) (nI k) = (if fl = 0 then f_O_trace_L55 xs ys ord pn 600 row' (nI (pushAll (ptf xs ys) R (od.drop k)).length) fl (nI od.length - 1 - 1) else some (row', nI (pushAll (ptf xs ys) R (od.drop k)).length, fl)) ∧ HRr (pushAll (ptf xs ys) R (od.drop k)) row' ∧ (pushAll (ptf xs ys) R (od.drop k)).length ≤ od.length ∧ (∀ a ∈ pushAll (ptf xs ys) R (od.drop k), a < 20) := by
  intro n
  induction n with
  | zero => intro k R row h; exact absurd h (Nat.not_lt_zero _)
  | succ n ih =>
    intro k R row hn hk hRk hR hH
    rw [f_O_trace_L22]
    by_cases e : k = od.length
    · have hlt : nI od.length - 1 < nI k := by
        rw [e]
        cases hq : od.length with
        | zero => decide
        | succ m => rw [nI_pred]; exact nI_lt (by omega) (by omega)
      rw [if_pos hlt]
      have hd : od.drop k = [] := by rw [e]; exact List.drop_length
      rw [hd, pushAll]
      exact ⟨row, rfl, hH, by omega, hR⟩
    · have hk : k < od.length := by omega
      have hge : ¬ nI od.length - 1 < nI k := by
        cases hq : od.length with
        | zero => omega
        | succ m => rw [nI_pred]; exact nI_nlt (by omega) (by omega)
      have hb := hm _ (getD_mem hk)
      obtain ⟨row1, e1, h1⟩ := s_push hx hy hb (R := R) (row := row) (by omega) hR hH
      have hpl := popR_le (ptf xs ys) (od.getD k 0) R
      rw [if_neg hge, s_inOrder h20 ho hk]
      dsimp only [Option.bind]
      rw [e1]
      dsimp only
      rw [drop_k hk, pushAll, nI_1]
      exact ih (k + 1) (od.getD k 0 :: popR (ptf xs ys) R (od.getD k 0)) row1 (by omega) (by omega) (by rw [List.length_cons]; omega) (fun a ha => by
        rcases List.mem_cons.mp ha with rfl | ha
        · exact hb
        · exact hR a (popR_mem _ _ _ _ ha)) h1
end T
