/-! The boundary's edges, awaited in their order. -/
def prevB (B : List Nat) (i : Nat) : Nat := if i = 0 then B.getD (B.length - 1) 0 else B.getD (i - 1) 0
theorem await_loop {B : List Nat} {row : Nat → Int32} {on : Int32} (hU : UI B row on) (hB : ∀ a ∈ B, a < 20) : ∀ (n k : Nat) (li wa : Nat → Int32) (lk : Nat → Nat → Prop), B.length - k < n → k ≤ B.length → LK lk li → (∀ x y, lk x y ↔ ∃ i, i < k ∧ x = B.getD i 0 ∧ y = prevB B i) → (∀ j, j < k → wa j = nI (prevB B j * 32 + B.getD j 0)) →
    ∃ li' wa', f_M_awaitOutline_L13 row on n li wa (nI k) (nI (prevB B k)) (nI k) = some (li', wa', nI B.length) ∧ LK (fun x y => ∃ i, i < B.length ∧ x = B.getD i 0 ∧ y = prevB B i) li' ∧ ∀ j, j < B.length → wa' j = nI (prevB B j * 32 + B.getD j 0) := by
  have h20 := hU.2.1
  intro n
  induction n with
  | zero => intro k li wa lk h; exact absurd h (Nat.not_lt_zero _)
  | succ n ih =>
    intro k li wa lk hn hk hL hlk hwa
    rw [f_M_awaitOutline_L13]
    dsimp only [Option.bind, f_O_size]
    by_cases e : k = B.length
    · rw [if_pos (show on ≤ nI k by rw [hU.1, e]; exact nI_le (Nat.le_refl _) (by omega))]
      have : lk = (fun x y => ∃ i, i < B.length ∧ x = B.getD i 0 ∧ y = prevB B i) := by
        funext x y
        apply propext
        rw [hlk x y, e]
      rw [this] at hL
      exact ⟨li, wa, by rw [e], hL, fun j hj => hwa j (by omega)⟩
    · have hk' : k < B.length := by omega
      have b2 := hB _ (getD_mem hk')
      have b1 : prevB B k < 20 := by
        unfold prevB
        split
        · exact hB _ (getD_mem (by omega))
        · exact hB _ (getD_mem (by omega))
      obtain ⟨li1, f1, L1⟩ := s_link hL b2 b1
      have hp : prevB B (k + 1) = B.getD k 0 := by
        unfold prevB
        rw [if_neg (by omega)]
        rfl
      rw [if_neg (show ¬ on ≤ nI k by rw [hU.1]; exact nI_ge hk' (by omega)), s_at hU hk']
      dsimp only
      rw [f1, s_await (show k < 54 by omega) b1 b2]
      dsimp only
      rw [nI_1, ← hp]
      refine ih (k + 1) li1 _ _ (by omega) (by omega) L1 (fun x y => ?_) (fun j hj => ?_)
      · rw [hlk x y]
        constructor
        · rintro (⟨i, a, b⟩ | ⟨c, d⟩)
          · exact ⟨i, by omega, b⟩
          · exact ⟨k, by omega, c, d⟩
        · rintro ⟨i, a, b, c⟩
          by_cases q : i = k
          · subst q
            exact Or.inr ⟨b, c⟩
          · exact Or.inl ⟨i, by omega, b, c⟩
      · by_cases q : j = k
        · rw [q, upd_s, hp]
        · rw [upd_n q]; exact hwa j (by omega)
theorem s_awaitOutline {B : List Nat} {row li wa : Nat → Int32} {on : Int32} (hU : UI B row on) (hB : ∀ a ∈ B, a < 20) (hpos : 0 < B.length) (hL : LK (fun _ _ => False) li) :
    ∃ li' wa', f_M_awaitOutline row on li wa 0 = some (li', wa', nI B.length) ∧ LK (fun x y => ∃ i, i < B.length ∧ x = B.getD i 0 ∧ y = prevB B i) li' ∧ ∀ j, j < B.length → wa' j = nI (prevB B j * 32 + B.getD j 0) := by
  have h20 := hU.2.1
  obtain ⟨li', wa', e, h1, h2⟩ := await_loop hU hB 600 0 li wa (fun _ _ => False) (by omega) (Nat.zero_le _) hL (fun x y => ⟨fun q => q.elim, fun ⟨i, a, _⟩ => by omega⟩) (fun j hj => absurd hj (Nat.not_lt_zero _))
  have hp : prevB B 0 = B.getD (B.length - 1) 0 := by unfold prevB; rw [if_pos rfl]
  rw [nI_0, hp] at e
  refine ⟨li', wa', ?_, h1, h2⟩
  unfold f_M_awaitOutline
  have e1 : on - 1 = nI (B.length - 1) := by
    rw [hU.1]
    cases hq : B.length with
    | zero => omega
    | succ m => exact nI_pred m
  dsimp only [Option.bind, f_O_size]
  rw [e1, s_at hU (show B.length - 1 < B.length by omega)]
  exact e
