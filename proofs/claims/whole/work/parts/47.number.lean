/-! number and across, given what the mesh holds. -/
theorem s_Nhas {l : List (Nat × Nat × Nat)} {na nb nc : Nat → Int32} (hT : HT l na nb nc) (h40 : l.length ≤ 40) {k : Nat} (hk : k < l.length) (u : Int32) : f_N_has na nb nc (nI k) u = some (if nI (l.getD k (0, 0, 0)).1 = u ∨ nI (l.getD k (0, 0, 0)).2.1 = u ∨ nI (l.getD k (0, 0, 0)).2.2 = u then 1 else 0) := by
  obtain ⟨g1, g2, g3⟩ := hT k hk
  unfold f_N_has
  simp only [if_pos (ix_nI (show k < 40 by omega) (by decide)), cl_nI (show k < 40 by omega) (by decide), g1, g2, g3]
  generalize l.getD k (0, 0, 0) = t
  by_cases h1 : nI t.1 = u
  · rw [if_pos h1, if_pos (Or.inl h1)]
  rw [if_neg h1]
  by_cases h2 : nI t.2.1 = u
  · rw [if_pos h2, if_pos (Or.inr (Or.inl h2))]
  rw [if_neg h2]
  by_cases h3 : nI t.2.2 = u
  · rw [if_pos h3, if_pos (Or.inr (Or.inr h3))]
  rw [if_neg h3, if_neg (fun h => h.elim h1 (fun h => h.elim h2 h3))]
/-- a triangle of the list has this corner -/
def cnr (l : List (Nat × Nat × Nat)) (k : Nat) (u : Int32) : Prop := nI (l.getD k (0, 0, 0)).1 = u ∨ nI (l.getD k (0, 0, 0)).2.1 = u ∨ nI (l.getD k (0, 0, 0)).2.2 = u
theorem num_step {xs ys tk na nb nc : Nat → Int32} {kn : Int32} {l : List (Nat × Nat × Nat)} (hT : HT l na nb nc) (h40 : l.length ≤ 40) (u v w : Int32) {n k : Nat} (hk : k < l.length) :
    ((u ≠ v ∧ v ≠ w ∧ u ≠ w) ∧ cnr l k u ∧ cnr l k v ∧ cnr l k w ∧ f_N_number_L7 tk xs ys (n + 1) kn (nI l.length) na nb nc u v w (nI k) = some (nI k, kn, nI l.length, na, nb, nc)) ∨
    (¬ ((u ≠ v ∧ v ≠ w ∧ u ≠ w) ∧ cnr l k u ∧ cnr l k v ∧ cnr l k w) ∧ f_N_number_L7 tk xs ys (n + 1) kn (nI l.length) na nb nc u v w (nI k) = f_N_number_L7 tk xs ys n kn (nI l.length) na nb nc u v w (nI (k + 1))) := by
  rw [f_N_number_L7, if_neg (nI_ge hk (by omega)), s_Nhas hT h40 hk u, s_Nhas hT h40 hk v, s_Nhas hT h40 hk w]
  dsimp only [Option.bind]
  rw [nI_1]
  by_cases h1 : u = v
  · rw [if_pos h1]; exact Or.inr ⟨fun q => q.1.1 h1, Eq.refl _⟩
  rw [if_neg h1]
  by_cases h2 : v = w
  · rw [if_pos h2]; exact Or.inr ⟨fun q => q.1.2.1 h2, Eq.refl _⟩
  rw [if_neg h2]
  by_cases h3 : u = w
  · rw [if_pos h3]; exact Or.inr ⟨fun q => q.1.2.2 h3, Eq.refl _⟩
  rw [if_neg h3]
  by_cases h4 : cnr l k u
  · rw [if_pos (c := nI (l.getD k (0, 0, 0)).1 = u ∨ nI (l.getD k (0, 0, 0)).2.1 = u ∨ nI (l.getD k (0, 0, 0)).2.2 = u) h4, if_neg (show ¬ (1 : Int32) = 0 by decide)]
    by_cases h5 : cnr l k v
    · rw [if_pos (c := nI (l.getD k (0, 0, 0)).1 = v ∨ nI (l.getD k (0, 0, 0)).2.1 = v ∨ nI (l.getD k (0, 0, 0)).2.2 = v) h5, if_neg (show ¬ (1 : Int32) = 0 by decide)]
      by_cases h6 : cnr l k w
      · rw [if_pos (c := nI (l.getD k (0, 0, 0)).1 = w ∨ nI (l.getD k (0, 0, 0)).2.1 = w ∨ nI (l.getD k (0, 0, 0)).2.2 = w) h6, if_neg (show ¬ (1 : Int32) = 0 by decide)]
        exact Or.inl ⟨⟨h1, h2, h3⟩, h4, h5, h6, Eq.refl _⟩
      · rw [if_neg (c := nI (l.getD k (0, 0, 0)).1 = w ∨ nI (l.getD k (0, 0, 0)).2.1 = w ∨ nI (l.getD k (0, 0, 0)).2.2 = w) h6, if_pos (Eq.refl (0 : Int32))]
        exact Or.inr ⟨fun q => h6 q.2.2.2, Eq.refl _⟩
    · rw [if_neg (c := nI (l.getD k (0, 0, 0)).1 = v ∨ nI (l.getD k (0, 0, 0)).2.1 = v ∨ nI (l.getD k (0, 0, 0)).2.2 = v) h5, if_pos (Eq.refl (0 : Int32))]
      exact Or.inr ⟨fun q => h5 q.2.2.1, Eq.refl _⟩
  · rw [if_neg (c := nI (l.getD k (0, 0, 0)).1 = u ∨ nI (l.getD k (0, 0, 0)).2.1 = u ∨ nI (l.getD k (0, 0, 0)).2.2 = u) h4, if_pos (Eq.refl (0 : Int32))]
    exact Or.inr ⟨fun q => h4 q.2.1, Eq.refl _⟩
theorem num_end {xs ys tk na nb nc : Nat → Int32} {kn : Int32} {l : List (Nat × Nat × Nat)} (h40 : l.length ≤ 40) (u v w : Int32) {n : Nat} : f_N_number_L7 tk xs ys (n + 1) kn (nI l.length) na nb nc u v w (nI l.length) = some (-1, kn, nI l.length, na, nb, nc) := by
  rw [f_N_number_L7, if_pos (nI_le (Nat.le_refl _) (by omega))]
theorem num_none {xs ys tk na nb nc : Nat → Int32} {kn : Int32} {l : List (Nat × Nat × Nat)} (hT : HT l na nb nc) (h40 : l.length ≤ 40) (u v w : Int32) (hno : ∀ k, k < l.length → ¬ (cnr l k u ∧ cnr l k v ∧ cnr l k w)) : ∀ (n k : Nat), l.length - k < n → k ≤ l.length →
    f_N_number_L7 tk xs ys n kn (nI l.length) na nb nc u v w (nI k) = some (-1, kn, nI l.length, na, nb, nc) := by
  intro n
  induction n with
  | zero => intro k h; exact absurd h (Nat.not_lt_zero _)
  | succ n ih =>
    intro k hn hk
    by_cases e : k = l.length
    · rw [e]; exact num_end h40 u v w
    · have hk : k < l.length := by omega
      rcases num_step (xs := xs) (ys := ys) (tk := tk) (kn := kn) (n := n) hT h40 u v w hk with ⟨-, h1, h2, h3, -⟩ | ⟨-, e2⟩
      · exact absurd ⟨h1, h2, h3⟩ (hno k hk)
      · rw [e2]; exact ih (k + 1) (by omega) (by omega)
section Q
variable {xs ys tk ord row ke fs li wa ri na nb nc : Nat → Int32} {st pn on fl mn wn rn kn ct : Int32} {v : Int32 × (Nat → Int32) × Int32 × Int32 × (Nat → Int32) × (Nat → Int32) × Int32 × (Nat → Int32) × (Nat → Int32) × Int32 × (Nat → Int32) × Int32}
theorem cnr_nI {l : List (Nat × Nat × Nat)} {k : Nat} (h20 : (l.getD k (0, 0, 0)).1 < 20 ∧ (l.getD k (0, 0, 0)).2.1 < 20 ∧ (l.getD k (0, 0, 0)).2.2 < 20) {x : Nat} (hx : x < 20) : cnr l k (nI x) ↔ ((l.getD k (0, 0, 0)).1 = x ∨ (l.getD k (0, 0, 0)).2.1 = x ∨ (l.getD k (0, 0, 0)).2.2 = x) := by
  unfold cnr
  rw [nI_eq (by omega) (by omega), nI_eq (by omega) (by omega), nI_eq (by omega) (by omega)]
theorem num_loop {l : List (Nat × Nat × Nat)} (hM : MI l ke mn) (hT : HT l na nb nc) (hd : ∀ t ∈ l, t.1 ≠ t.2.1 ∧ t.2.1 ≠ t.2.2 ∧ t.1 ≠ t.2.2) {x y z : Nat} (hx : x < 20) (hy : y < 20) (hz : z < 20) : ∀ (n k : Nat), l.length - k < n → k ≤ l.length →
    ∃ r, f_F_number_L55 xs ys tk ord pn n st row on fl ke fs mn li wa wn ri rn (nI (bit3 x y z)) (nI k) = some (r, st, row, on, fl, ke, fs, mn, li, wa, wn, ri, rn) ∧ f_N_number_L7 tk xs ys n kn (nI l.length) na nb nc (nI x) (nI y) (nI z) (nI k) = some (r, kn, nI l.length, na, nb, nc) := by
  have h35 := hM.2.1
  intro n
  induction n with
  | zero => intro k h; exact absurd h (Nat.not_lt_zero _)
  | succ n ih =>
    intro k hn hk
    rw [f_F_number_L55]
    dsimp only [Option.bind, f_M_size]
    by_cases e : k = l.length
    · rw [if_pos (show mn ≤ nI k by rw [hM.1, e]; exact nI_le (Nat.le_refl _) (by omega)), e]
      exact ⟨_, Eq.refl _, num_end (by omega) _ _ _⟩
    · have hk : k < l.length := by omega
      have ih' := ih (k + 1) (by omega) (by omega)
      have h20 := hM.2.2.1 _ (getD_mem3 hk)
      rw [if_neg (show ¬ mn ≤ nI k by rw [hM.1]; exact nI_ge hk (by omega)), s_cset hM hk, nI_1]
      dsimp only
      have be := bit3_eq (x := x) (y := y) (z := z) (hd _ (getD_mem3 hk))
      have b1 := bit3_lt h20.1 h20.2.1 h20.2.2
      have b2 := bit3_lt hx hy hz
      have key : nI (bit3 (l.getD k (0, 0, 0)).1 (l.getD k (0, 0, 0)).2.1 (l.getD k (0, 0, 0)).2.2) = nI (bit3 x y z) ↔ (nI x ≠ nI y ∧ nI y ≠ nI z ∧ nI x ≠ nI z) ∧ cnr l k (nI x) ∧ cnr l k (nI y) ∧ cnr l k (nI z) := by
        rw [nI_eq (by omega) (by omega), be, cnr_nI h20 hx, cnr_nI h20 hy, cnr_nI h20 hz]
        have q1 := nI_eq (a := x) (b := y) (by omega) (by omega)
        have q2 := nI_eq (a := y) (b := z) (by omega) (by omega)
        have q3 := nI_eq (a := x) (b := z) (by omega) (by omega)
        simp only [ne_eq, q1, q2, q3]
      rcases num_step (xs := xs) (ys := ys) (tk := tk) (kn := kn) (n := n) hT (by omega) (nI x) (nI y) (nI z) hk with ⟨h1, h2, h3, h4, e2⟩ | ⟨h1, e2⟩
      · rw [if_pos (key.mpr ⟨h1, h2, h3, h4⟩), e2]
        exact ⟨_, Eq.refl _, Eq.refl _⟩
      · rw [if_neg (fun q => h1 (key.mp q)), e2]
        exact ih'
end Q
