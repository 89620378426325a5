/-! The mesh's links as a relation; fill, link, isLinked, await. -/
def LK (lk : Nat → Nat → Prop) (li : Nat → Int32) : Prop := ∃ G : Nat → Nat, (∀ a, a < 20 → li a = nI (G a) ∧ G a < 2 ^ 20) ∧ ∀ a b, a < 20 → b < 20 → ((G a).testBit b = true ↔ lk a b)
theorem fill_loop : ∀ (n k : Nat) (li : Nat → Int32), 20 - k < n → k ≤ 20 → (∀ j, j < k → li j = 0) → ∃ li', f_J_fill_L5 n li 0 (nI k) 20 = some li' ∧ ∀ j, j < 20 → li' j = 0 := by
  intro n
  induction n with
  | zero => intro k li h; exact absurd h (Nat.not_lt_zero _)
  | succ n ih =>
    intro k li hn hk h
    rw [f_J_fill_L5]
    by_cases e : k = 20
    · rw [if_pos (ge20 e)]
      subst e
      exact ⟨li, rfl, h⟩
    · have hk : k < 20 := by omega
      rw [if_neg (lt20 hk), if_pos (ix_nI hk (by decide)), cl_nI hk (by decide), nI_1]
      refine ih (k + 1) _ (by omega) (by omega) (fun j hj => ?_)
      by_cases e2 : j = k
      · rw [e2, upd_s]
      · rw [upd_n e2]; exact h j (by omega)
theorem s_fill (li : Nat → Int32) : ∃ li', f_J_fill li 0 = some li' ∧ LK (fun _ _ => False) li' := by
  obtain ⟨li', e, h⟩ := fill_loop 600 0 li (by omega) (Nat.zero_le _) (fun j hj => absurd hj (Nat.not_lt_zero _))
  rw [nI_0] at e
  refine ⟨li', e, fun _ => 0, fun a ha => ⟨by rw [h a ha]; exact nI_0.symm, show 0 < 2 ^ 20 by decide⟩, fun a b _ _ => ?_⟩
  rw [Nat.zero_testBit]
  exact ⟨fun q => absurd q (by decide), fun q => q.elim⟩
theorem s_link {lk : Nat → Nat → Prop} {li : Nat → Int32} (h : LK lk li) {a b : Nat} (ha : a < 20) (hb : b < 20) : ∃ li', f_M_link li (nI a) (nI b) = some li' ∧ LK (fun x y => lk x y ∨ (x = a ∧ y = b)) li' := by
  obtain ⟨G, g1, g2⟩ := h
  refine ⟨upd li a (nI (G a ||| 2 ^ b)), ?_, fun x => if x = a then G a ||| 2 ^ b else G x, ?_, ?_⟩
  · unfold f_M_link
    rw [if_pos (ix_nI ha (by decide)), if_pos (ix_nI ha (by decide)), cl_nI ha (by decide), (g1 a ha).1, shl_nI hb, or_nI]
  · intro x hx
    dsimp only
    by_cases e : x = a
    · rw [if_pos e, e, upd_s]
      exact ⟨rfl, Nat.or_lt_two_pow (g1 a ha).2 (pow20 hb)⟩
    · rw [if_neg e, upd_n e]
      exact g1 x hx
  · intro x y hx hy
    dsimp only
    by_cases e : x = a
    · rw [if_pos e, Nat.testBit_or, tb_pow, Bool.or_eq_true, decide_eq_true_eq, e, g2 a y ha hy]
      exact ⟨fun q => q.elim Or.inl (fun q => Or.inr ⟨rfl, q.symm⟩), fun q => q.elim Or.inl (fun q => Or.inr q.2.symm)⟩
    · rw [if_neg e, g2 x y hx hy]
      exact ⟨Or.inl, fun q => q.elim id (fun q => absurd q.1 e)⟩
theorem s_isLinked {lk : Nat → Nat → Prop} {li : Nat → Int32} (h : LK lk li) {a b : Nat} (ha : a < 20) (hb : b < 20) : (f_M_isLinked li (nI a) (nI b) = some 1 ∧ lk a b) ∨ (f_M_isLinked li (nI a) (nI b) = some 0 ∧ ¬ lk a b) := by
  obtain ⟨G, g1, g2⟩ := h
  obtain ⟨e1, e2⟩ := g1 a ha
  have hs : ((nI b &&& 31).toBitVec.smod 32).toNat = b := by
    have : ∀ b, b < 20 → ((nI b &&& 31).toBitVec.smod 32).toNat = b := by decide +kernel
    exact this b hb
  unfold f_M_isLinked
  rw [if_pos (ix_nI ha (by decide)), cl_nI ha (by decide), e1, pk_shrN (by omega) _ b hs]
  have hd : G a / 2 ^ b < 2 ^ 20 := Nat.lt_of_le_of_lt (Nat.div_le_self _ _) e2
  rw [pk_andN (by omega) 1 (by decide)]
  have tb : (G a).testBit b = decide (G a / 2 ^ b % 2 = 1) := Nat.testBit_eq_decide_div_mod_eq
  have gb := g2 a b ha hb
  rw [tb, decide_eq_true_eq] at gb
  have hm : G a / 2 ^ b % 2 < 2 := Nat.mod_lt _ (by omega)
  rw [show (2 : Nat) ^ 1 = 2 from rfl]
  by_cases z : G a / 2 ^ b % 2 = 0
  · rw [z, if_pos nI_0]
    exact Or.inr ⟨rfl, fun q => by have := gb.mpr q; omega⟩
  · have z1 : G a / 2 ^ b % 2 = 1 := by omega
    rw [z1, if_neg (show ¬ nI 1 = 0 by decide)]
    exact Or.inl ⟨rfl, gb.mp z1⟩
theorem s_await {wa : Nat → Int32} {w a b : Nat} (hw : w < 54) (ha : a < 20) (hb : b < 20) : f_M_await wa (nI w) (nI a) (nI b) = some (upd wa w (nI (a * 32 + b)), nI (w + 1)) := by
  have hor : (nI a <<< ((5 : Int32) &&& 31)) ||| nI b = nI (a * 32 + b) := by
    have : ∀ a, a < 20 → ∀ b, b < 20 → (nI a <<< ((5 : Int32) &&& 31)) ||| nI b = nI (a * 32 + b) := by decide +kernel
    exact this a ha b hb
  unfold f_M_await
  rw [if_neg (show ¬ (54 : Int32) ≤ nI w from nI_ge hw (by decide)), if_pos (ix_nI hw (by decide)), cl_nI hw (by decide), hor, nI_1]
