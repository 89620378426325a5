/-! Neighbours: on a line, and in a mesh; class and reference alike. -/
def LoS (xs ys tk : Nat → Int32) (s k : Nat) (x : Int32) : Prop := (x = -1 ∧ ∀ j, j < k → tk j ≠ 0 → ¬ lex (ptf xs ys j) (ptf xs ys s)) ∨ ∃ a, a < 20 ∧ tk a ≠ 0 ∧ lex (ptf xs ys a) (ptf xs ys s) ∧ x = nI a ∧ ∀ j, j < k → tk j ≠ 0 → lex (ptf xs ys j) (ptf xs ys s) → j = a ∨ lex (ptf xs ys j) (ptf xs ys a)
def HiS (xs ys tk : Nat → Int32) (s k : Nat) (x : Int32) : Prop := (x = -1 ∧ ∀ j, j < k → tk j ≠ 0 → ¬ lex (ptf xs ys s) (ptf xs ys j)) ∨ ∃ a, a < 20 ∧ tk a ≠ 0 ∧ lex (ptf xs ys s) (ptf xs ys a) ∧ x = nI a ∧ ∀ j, j < k → tk j ≠ 0 → lex (ptf xs ys s) (ptf xs ys j) → j = a ∨ lex (ptf xs ys a) (ptf xs ys j)
def isLo (xs ys tk : Nat → Int32) (s a : Nat) : Prop := tk a ≠ 0 ∧ lex (ptf xs ys a) (ptf xs ys s) ∧ ∀ j, tk j ≠ 0 → lex (ptf xs ys j) (ptf xs ys s) → j = a ∨ lex (ptf xs ys j) (ptf xs ys a)
def isHi (xs ys tk : Nat → Int32) (s a : Nat) : Prop := tk a ≠ 0 ∧ lex (ptf xs ys s) (ptf xs ys a) ∧ ∀ j, tk j ≠ 0 → lex (ptf xs ys s) (ptf xs ys j) → j = a ∨ lex (ptf xs ys a) (ptf xs ys j)
section V
variable {xs ys tk : Nat → Int32}
theorem LoS_skip {s k : Nat} {x : Int32} (h : LoS xs ys tk s k x) (hk : ¬ (tk k ≠ 0 ∧ lex (ptf xs ys k) (ptf xs ys s))) : LoS xs ys tk s (k + 1) x := by
  rcases h with ⟨h1, h2⟩ | ⟨a, a1, a2, a0, a3, a4⟩
  · refine Or.inl ⟨h1, fun j hj ht hl => ?_⟩
    by_cases e : j = k
    · rw [e] at ht hl; exact hk ⟨ht, hl⟩
    · exact h2 j (by omega) ht hl
  · refine Or.inr ⟨a, a1, a2, a0, a3, fun j hj ht hl => ?_⟩
    by_cases e : j = k
    · rw [e] at ht hl; exact absurd ⟨ht, hl⟩ hk
    · exact a4 j (by omega) ht hl
theorem HiS_skip {s k : Nat} {x : Int32} (h : HiS xs ys tk s k x) (hk : ¬ (tk k ≠ 0 ∧ lex (ptf xs ys s) (ptf xs ys k))) : HiS xs ys tk s (k + 1) x := by
  rcases h with ⟨h1, h2⟩ | ⟨a, a1, a2, a0, a3, a4⟩
  · refine Or.inl ⟨h1, fun j hj ht hl => ?_⟩
    by_cases e : j = k
    · rw [e] at ht hl; exact hk ⟨ht, hl⟩
    · exact h2 j (by omega) ht hl
  · refine Or.inr ⟨a, a1, a2, a0, a3, fun j hj ht hl => ?_⟩
    by_cases e : j = k
    · rw [e] at ht hl; exact absurd ⟨ht, hl⟩ hk
    · exact a4 j (by omega) ht hl
theorem hi_step {k7 : Int32 → Int32 → Int32 → Int32 → Option Int32} (hd : ∀ i j, tk i ≠ 0 → tk j ≠ 0 → i = j ∨ lex (ptf xs ys i) (ptf xs ys j) ∨ lex (ptf xs ys j) (ptf xs ys i)) {s k : Nat} {x3 z0 : Int32} (hs : s < 20) (hk : k < 20) (ht : tk k ≠ 0) (h : HiS xs ys tk s k x3) :
    ∃ x3', f_N_flatNeighbours_b60 k7 tk xs ys (nI s) x3 (nI k) z0 = k7 (nI s) z0 x3' (nI (k + 1)) ∧ HiS xs ys tk s (k + 1) x3' := by
  unfold f_N_flatNeighbours_b60
  rw [s_Nearlier hs hk, nI_1]
  dsimp only [Option.bind]
  cases hl : lexb (ptf xs ys s) (ptf xs ys k)
  · rw [if_pos (show b01 false = 0 by decide)]
    exact ⟨x3, rfl, HiS_skip h (fun q => lexb_f hl q.2)⟩
  · rw [if_neg (show ¬ b01 true = 0 by decide)]
    have hsk := lexb_iff.mp hl
    rcases h with ⟨rfl, h2⟩ | ⟨a, a1, a2, a0, rfl, a4⟩
    · rw [if_pos (show (-1 : Int32) < 0 by decide)]
      refine ⟨nI k, rfl, Or.inr ⟨k, hk, ht, hsk, rfl, fun j hj htj hlj => ?_⟩⟩
      by_cases e : j = k
      · exact Or.inl e
      · exact absurd hlj (h2 j (by omega) htj)
    · rw [if_neg (nI_pos (by omega)), s_Nearlier hk a1]
      dsimp only
      cases hl2 : lexb (ptf xs ys k) (ptf xs ys a)
      · rw [if_pos (show b01 false = 0 by decide)]
        refine ⟨nI a, rfl, Or.inr ⟨a, a1, a2, a0, rfl, fun j hj htj hlj => ?_⟩⟩
        by_cases e : j = k
        · rw [e]
          rcases hd a k a2 ht with q | q | q
          · exact Or.inl q.symm
          · exact Or.inr q
          · exact absurd q (lexb_f hl2)
        · exact a4 j (by omega) htj hlj
      · rw [if_neg (show ¬ b01 true = 0 by decide)]
        refine ⟨nI k, rfl, Or.inr ⟨k, hk, ht, hsk, rfl, fun j hj htj hlj => ?_⟩⟩
        by_cases e : j = k
        · exact Or.inl e
        · rcases a4 j (by omega) htj hlj with q | q
          · rw [q]; exact Or.inr (lexb_iff.mp hl2)
          · exact Or.inr (lex_tr (lexb_iff.mp hl2) q)
theorem add_or {a c : Nat} (ha : a < 20) (hc : c < 20) (h : a ≠ c) : 2 ^ a + 2 ^ c = 2 ^ a ||| 2 ^ c := by
  have : ∀ a, a < 20 → ∀ c, c < 20 → a ≠ c → 2 ^ a + 2 ^ c = 2 ^ a ||| 2 ^ c := by decide +kernel
  exact this a ha c hc h
theorem lo_uniq {s a b : Nat} (h1 : isLo xs ys tk s a) (h2 : isLo xs ys tk s b) : a = b := by
  rcases h2.2.2 a h1.1 h1.2.1 with e | e
  · exact e
  · rcases h1.2.2 b h2.1 h2.2.1 with q | q
    · exact q.symm
    · exact absurd q (lex_asym e)
theorem hi_uniq {s a b : Nat} (h1 : isHi xs ys tk s a) (h2 : isHi xs ys tk s b) : a = b := by
  rcases h2.2.2 a h1.1 h1.2.1 with e | e
  · exact e
  · rcases h1.2.2 b h2.1 h2.2.1 with q | q
    · exact q.symm
    · exact absurd q (lex_asym e)
theorem flat_end (h20 : ∀ j, tk j ≠ 0 → j < 20) {s : Nat} {x2 x3 : Int32} (h2 : LoS xs ys tk s 20 x2) (h3 : HiS xs ys tk s 20 x3) :
    ∃ M : Nat, (if 0 ≤ x2 then f_N_flatNeighbours_b109 tk xs ys x3 ((1 : Int32) <<< (x2 &&& 31)) else f_N_flatNeighbours_b109 tk xs ys x3 0) = some (nI M) ∧ M < 2 ^ 20 ∧ ∀ b, M.testBit b = true ↔ isLo xs ys tk s b ∨ isHi xs ys tk s b := by
  have z0 : ∀ z : Int32, z + 0 = z := fun z => by simp
  have z1 : ∀ z : Int32, 0 + z = z := fun z => by simp
  unfold f_N_flatNeighbours_b109 f_N_flatNeighbours_b120
  rcases h2 with ⟨rfl, k2⟩ | ⟨a, a1, a2, a0, rfl, a4⟩
  · have nolo : ∀ b, ¬ isLo xs ys tk s b := fun b h => k2 b (h20 b h.1) h.1 h.2.1
    rw [if_neg (show ¬ (0 : Int32) ≤ -1 by decide)]
    rcases h3 with ⟨rfl, k3⟩ | ⟨c, c1, c2, c0, rfl, c4⟩
    · have nohi : ∀ b, ¬ isHi xs ys tk s b := fun b h => k3 b (h20 b h.1) h.1 h.2.1
      rw [if_neg (show ¬ (0 : Int32) ≤ -1 by decide), z0]
      refine ⟨0, by rw [nI_0], by decide, fun b => ?_⟩
      rw [Nat.zero_testBit]
      exact ⟨fun q => (by cases q), fun q => q.elim (fun q => absurd q (nolo b)) (fun q => absurd q (nohi b))⟩
    · have hc : isHi xs ys tk s c := ⟨c2, c0, fun j ht hl => c4 j (h20 j ht) ht hl⟩
      rw [if_pos (nI_pos' (by omega)), shl_nI c1, z1]
      refine ⟨2 ^ c, rfl, pow20 c1, fun b => ?_⟩
      rw [tb_pow, decide_eq_true_eq]
      exact ⟨fun q => Or.inr (q ▸ hc), fun q => q.elim (fun q => absurd q (nolo b)) (fun q => hi_uniq hc q)⟩
  · have ha : isLo xs ys tk s a := ⟨a2, a0, fun j ht hl => a4 j (h20 j ht) ht hl⟩
    rw [if_pos (nI_pos' (by omega)), shl_nI a1]
    rcases h3 with ⟨rfl, k3⟩ | ⟨c, c1, c2, c0, rfl, c4⟩
    · have nohi : ∀ b, ¬ isHi xs ys tk s b := fun b h => k3 b (h20 b h.1) h.1 h.2.1
      rw [if_neg (show ¬ (0 : Int32) ≤ -1 by decide), z0]
      refine ⟨2 ^ a, rfl, pow20 a1, fun b => ?_⟩
      rw [tb_pow, decide_eq_true_eq]
      exact ⟨fun q => Or.inl (q ▸ ha), fun q => q.elim (fun q => lo_uniq ha q) (fun q => absurd q (nohi b))⟩
    · have hc : isHi xs ys tk s c := ⟨c2, c0, fun j ht hl => c4 j (h20 j ht) ht hl⟩
      have hne : a ≠ c := fun e => by rw [e] at a0; exact lex_asym a0 c0
      rw [if_pos (nI_pos' (by omega)), shl_nI c1, nI_add, add_or a1 c1 hne]
      refine ⟨2 ^ a ||| 2 ^ c, rfl, Nat.or_lt_two_pow (pow20 a1) (pow20 c1), fun b => ?_⟩
      rw [Nat.testBit_or, tb_pow, tb_pow, Bool.or_eq_true, decide_eq_true_eq, decide_eq_true_eq]
      exact ⟨fun q => q.elim (fun q => Or.inl (q ▸ ha)) (fun q => Or.inr (q ▸ hc)), fun q => q.elim (fun q => Or.inl (lo_uniq ha q)) (fun q => Or.inr (hi_uniq hc q))⟩
theorem flat_loop (h20 : ∀ j, tk j ≠ 0 → j < 20) (hd : ∀ i j, tk i ≠ 0 → tk j ≠ 0 → i = j ∨ lex (ptf xs ys i) (ptf xs ys j) ∨ lex (ptf xs ys j) (ptf xs ys i)) {s : Nat} (hs : s < 20) : ∀ (n k : Nat) (x2 x3 : Int32), 20 - k < n → k ≤ 20 → LoS xs ys tk s k x2 → HiS xs ys tk s k x3 →
    ∃ M : Nat, f_N_flatNeighbours_L7 tk xs ys n (nI s) x2 x3 (nI k) = some (nI M) ∧ M < 2 ^ 20 ∧ ∀ b, M.testBit b = true ↔ isLo xs ys tk s b ∨ isHi xs ys tk s b := by
  intro n
  induction n with
  | zero => intro k x2 x3 h; exact absurd h (Nat.not_lt_zero _)
  | succ n ih =>
    intro k x2 x3 hn hk h2 h3
    rw [f_N_flatNeighbours_L7]
    by_cases e : k = 20
    · rw [if_pos (ge20 e)]
      subst e
      exact flat_end h20 h2 h3
    · have hk' : k < 20 := by omega
      rw [if_neg (lt20 hk'), if_pos (ix_nI hk' (by decide)), cl_nI hk' (by decide)]
      by_cases t1 : tk k = 0
      · rw [if_pos t1, nI_1]
        exact ih (k + 1) x2 x3 (by omega) (by omega) (LoS_skip h2 (fun q => q.1 t1)) (HiS_skip h3 (fun q => q.1 t1))
      rw [if_neg t1]
      by_cases t2 : k = s
      · rw [if_pos (by rw [t2]), nI_1]
        exact ih (k + 1) x2 x3 (by omega) (by omega) (LoS_skip h2 (fun q => by rw [t2] at q; exact lex_ir q.2)) (HiS_skip h3 (fun q => by rw [t2] at q; exact lex_ir q.2))
      rw [if_neg (nI_ne hk' hs t2), s_Nearlier hk' hs]
      dsimp only [Option.bind]
      have fin : ∀ z, LoS xs ys tk s (k + 1) z → ∃ M : Nat, f_N_flatNeighbours_b60 (fun x1 x2 x3 x4 => f_N_flatNeighbours_L7 tk xs ys n x1 x2 x3 x4) tk xs ys (nI s) x3 (nI k) z = some (nI M) ∧ M < 2 ^ 20 ∧ ∀ b, M.testBit b = true ↔ isLo xs ys tk s b ∨ isHi xs ys tk s b := by
        intro z hz
        obtain ⟨x3', e3, h3'⟩ := hi_step (k7 := fun x1 x2 x3 x4 => f_N_flatNeighbours_L7 tk xs ys n x1 x2 x3 x4) (z0 := z) hd hs hk' t1 h3
        rw [e3]
        exact ih (k + 1) z x3' (by omega) (by omega) hz h3'
      unfold f_N_flatNeighbours_b59
      cases hl : lexb (ptf xs ys k) (ptf xs ys s)
      · rw [if_pos (show b01 false = 0 by decide)]
        exact fin x2 (LoS_skip h2 (fun q => lexb_f hl q.2))
      · rw [if_neg (show ¬ b01 true = 0 by decide)]
        have hks := lexb_iff.mp hl
        rcases h2 with ⟨rfl, k2⟩ | ⟨a, a1, a2, a0, rfl, a4⟩
        · rw [if_pos (show (-1 : Int32) < 0 by decide)]
          refine fin (nI k) (Or.inr ⟨k, hk', t1, hks, rfl, fun j hj htj hlj => ?_⟩)
          by_cases e : j = k
          · exact Or.inl e
          · exact absurd hlj (k2 j (by omega) htj)
        · rw [if_neg (nI_pos (by omega)), s_Nearlier a1 hk']
          dsimp only
          cases hl2 : lexb (ptf xs ys a) (ptf xs ys k)
          · rw [if_pos (show b01 false = 0 by decide)]
            refine fin (nI a) (Or.inr ⟨a, a1, a2, a0, rfl, fun j hj htj hlj => ?_⟩)
            by_cases e : j = k
            · rw [e]
              rcases hd a k a2 t1 with q | q | q
              · exact Or.inl q.symm
              · exact absurd q (lexb_f hl2)
              · exact Or.inr q
            · exact a4 j (by omega) htj hlj
          · rw [if_neg (show ¬ b01 true = 0 by decide)]
            refine fin (nI k) (Or.inr ⟨k, hk', t1, hks, rfl, fun j hj htj hlj => ?_⟩)
            by_cases e : j = k
            · exact Or.inl e
            · rcases a4 j (by omega) htj hlj with q | q
              · rw [q]; exact Or.inr (lexb_iff.mp hl2)
              · exact Or.inr (lex_tr q (lexb_iff.mp hl2))
theorem bits_eq {m n : Nat} (hm : m < 2 ^ 20) (hn : n < 2 ^ 20) (h : ∀ b, b < 20 → (m.testBit b = true ↔ n.testBit b = true)) : m = n := by
  apply Nat.eq_of_testBit_eq
  intro i
  by_cases hi : i < 20
  · exact Bool.eq_iff_iff.mpr (h i hi)
  · have hp : 2 ^ 20 ≤ 2 ^ i := Nat.pow_le_pow_right (by omega) (by omega)
    rw [Nat.testBit_lt_two_pow (Nat.lt_of_lt_of_le hm hp), Nat.testBit_lt_two_pow (Nat.lt_of_lt_of_le hn hp)]
end V
