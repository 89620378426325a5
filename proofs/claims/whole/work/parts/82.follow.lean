/-! The reference's neighbours: edges of triangles with no site of the circle beyond. -/
def badd (xs ys tk : Nat → Int32) (u : Nat × Nat × Nat) (p q d : Nat) : Prop := tk d ≠ 0 ∧ d ≠ p ∧ d ≠ q ∧ ori (ptf xs ys p) (ptf xs ys q) (ptf xs ys d) < 0 ∧ inc (ptf xs ys u.1) (ptf xs ys u.2.1) (ptf xs ys u.2.2) (ptf xs ys d) = 0
theorem sg_ge {z : Int} : 0 ≤ sg z ↔ 0 ≤ z := by
  rcases sg_cases z with ⟨h, e⟩ | ⟨h, e⟩ | ⟨h, e⟩
  · rw [e]; exact ⟨fun _ => by omega, fun _ => by decide⟩
  · rw [e]; exact ⟨fun _ => by omega, fun _ => by decide⟩
  · rw [e]; exact ⟨fun q => absurd q (by decide), fun q => by omega⟩
theorem sg_z {z : Int} : sg z = 0 ↔ z = 0 := by
  rcases sg_cases z with ⟨h, e⟩ | ⟨h, e⟩ | ⟨h, e⟩
  · rw [e]; exact ⟨fun q => absurd q (by decide), fun q => by omega⟩
  · rw [e]; exact ⟨fun _ => h, fun _ => rfl⟩
  · rw [e]; exact ⟨fun q => absurd q (by decide), fun q => by omega⟩
section W
variable {xs ys tk na nb nc : Nat → Int32} {kn ct : Int32}
theorem follow_loop (hx : B6 xs) (hy : B6 ys) {i p q : Nat} {u : Nat × Nat × Nat} (hi : i < 40) (g : na i = nI u.1 ∧ nb i = nI u.2.1 ∧ nc i = nI u.2.2) (hu : t20 u) (hp : p < 20) (hq : q < 20) : ∀ (n k : Nat) (fl : Int32), 20 - k < n → k ≤ 20 → ((fl = 0 ∧ ∀ j, j < k → ¬ badd xs ys tk u p q j) ∨ (fl = 1 ∧ ∃ j, badd xs ys tk u p q j)) →
    (f_N_follow_L6 tk xs ys na nb nc n (nI i) (nI p) (nI q) fl (nI k) = some 1 ∧ ∀ j, j < 20 → ¬ badd xs ys tk u p q j) ∨ (f_N_follow_L6 tk xs ys na nb nc n (nI i) (nI p) (nI q) fl (nI k) = some 0 ∧ ∃ j, badd xs ys tk u p q j) := by
  intro n
  induction n with
  | zero => intro k fl h; exact absurd h (Nat.not_lt_zero _)
  | succ n ih =>
    intro k fl hn hk h
    rw [f_N_follow_L6]
    by_cases e : k = 20
    · rw [if_pos (ge20 e)]
      subst e
      rcases h with ⟨h1, h2⟩ | ⟨h1, h2⟩
      · rw [if_pos h1]; exact Or.inl ⟨rfl, h2⟩
      · rw [if_neg (by rw [h1]; decide)]; exact Or.inr ⟨rfl, h2⟩
    · have hk' : k < 20 := by omega
      rw [if_neg (lt20 hk'), nI_1]
      rcases h with ⟨h1, h2⟩ | ⟨h1, h2⟩
      · rw [if_pos h1]
        have go : ¬ badd xs ys tk u p q k → (f_N_follow_L6 tk xs ys na nb nc n (nI i) (nI p) (nI q) 0 (nI (k + 1)) = some 1 ∧ ∀ j, j < 20 → ¬ badd xs ys tk u p q j) ∨ (f_N_follow_L6 tk xs ys na nb nc n (nI i) (nI p) (nI q) 0 (nI (k + 1)) = some 0 ∧ ∃ j, badd xs ys tk u p q j) := by
          intro hb
          refine ih (k + 1) 0 (by omega) (by omega) (Or.inl ⟨rfl, fun j hj => ?_⟩)
          by_cases e2 : j = k
          · rw [e2]; exact hb
          · exact h2 j (by omega)
        simp only [if_pos (ix_nI hk' (by decide)), cl_nI hk' (by decide), if_pos (ix_nI hi (by decide)), cl_nI hi (by decide), g.1, g.2.1, g.2.2]
        by_cases t1 : tk k = 0
        · rw [if_pos t1]; exact go (fun b => b.1 t1)
        rw [if_neg t1]
        by_cases t2 : k = p
        · rw [if_pos (by rw [t2])]; exact go (fun b => b.2.1 t2)
        rw [if_neg (nI_ne hk' hp t2)]
        by_cases t3 : k = q
        · rw [if_pos (by rw [t3])]; exact go (fun b => b.2.2.1 t3)
        rw [if_neg (nI_ne hk' hq t3), s_Nside hx hy hp hq hk']
        dsimp only [Option.bind]
        by_cases t4 : 0 ≤ ori (ptf xs ys p) (ptf xs ys q) (ptf xs ys k)
        · rw [if_pos (sg_ge.mpr t4)]; exact go (fun b => by have := b.2.2.2.1; omega)
        rw [if_neg (fun z => t4 (sg_ge.mp z)), s_Ncirc hx hy hu.1 hu.2.1 hu.2.2 hk']
        dsimp only
        by_cases t5 : inc (ptf xs ys u.1) (ptf xs ys u.2.1) (ptf xs ys u.2.2) (ptf xs ys k) = 0
        · rw [if_pos (sg_z.mpr t5)]
          exact ih (k + 1) 1 (by omega) (by omega) (Or.inr ⟨rfl, k, t1, t2, t3, by omega, t5⟩)
        · rw [if_neg (fun z => t5 (sg_z.mp z))]
          exact go (fun b => t5 b.2.2.2.2)
      · rw [if_neg (by rw [h1]; decide)]
        exact ih (k + 1) 1 (by omega) (by omega) (Or.inr ⟨rfl, h2⟩)
theorem s_Nlink (hx : B6 xs) (hy : B6 ys) (h20 : ∀ j, tk j ≠ 0 → j < 20) {i p q s : Nat} {u : Nat × Nat × Nat} (hi : i < 40) (g : na i = nI u.1 ∧ nb i = nI u.2.1 ∧ nc i = nI u.2.2) (hu : t20 u) (hp : p < 20) (hq : q < 20) (hs : s < 20) (hpq : p ≠ q) :
    ∃ m : Nat, f_N_link tk xs ys na nb nc (nI i) (nI s) (nI p) (nI q) = some (nI m) ∧ m < 2 ^ 20 ∧ ∀ b, m.testBit b = true ↔ (∀ j, ¬ badd xs ys tk u p q j) ∧ ((p = s ∧ b = q) ∨ (q = s ∧ b = p)) := by
  have hF := follow_loop (tk := tk) hx hy hi g hu hp hq 600 0 0 (by omega) (by omega) (Or.inl ⟨rfl, fun j hj => absurd hj (Nat.not_lt_zero _)⟩)
  rw [nI_0] at hF
  unfold f_N_link
  have main : (p = s ∨ q = s) → ∃ m : Nat, f_N_link_b16 tk xs ys na nb nc (nI i) (nI s) (nI p) (nI q) 1 = some (nI m) ∧ m < 2 ^ 20 ∧ ∀ b, m.testBit b = true ↔ (∀ j, ¬ badd xs ys tk u p q j) ∧ ((p = s ∧ b = q) ∨ (q = s ∧ b = p)) := by
    intro hps
    unfold f_N_link_b16 f_N_follow f_N_link_b46
    rw [if_neg (show ¬ (1 : Int32) = 0 by decide)]
    rcases hF with ⟨e, h⟩ | ⟨e, h⟩
    · have h' : ∀ j, ¬ badd xs ys tk u p q j := fun j b => h j (h20 j b.1) b
      rw [e]
      dsimp only [Option.bind]
      rw [if_neg (show ¬ (1 : Int32) = 0 by decide)]
      by_cases e1 : p = s
      · rw [if_pos (by rw [e1]), shl_nI hq]
        refine ⟨2 ^ q, rfl, pow20 hq, fun b => ?_⟩
        rw [tb_pow, decide_eq_true_eq]
        constructor
        · intro z; exact ⟨h', Or.inl ⟨e1, z.symm⟩⟩
        · rintro ⟨-, ⟨-, z⟩ | ⟨z, -⟩⟩
          · exact z.symm
          · exact absurd (e1.trans z.symm) hpq
      · rw [if_neg (nI_ne hp hs e1), shl_nI hp]
        refine ⟨2 ^ p, rfl, pow20 hp, fun b => ?_⟩
        rw [tb_pow, decide_eq_true_eq]
        constructor
        · intro z; exact ⟨h', Or.inr ⟨hps.resolve_left e1, z.symm⟩⟩
        · rintro ⟨-, ⟨z, -⟩ | ⟨-, z⟩⟩
          · exact absurd z e1
          · exact z.symm
    · rw [e]
      dsimp only [Option.bind]
      rw [if_pos (Eq.refl (0 : Int32))]
      refine ⟨0, by rw [nI_0], by decide, fun b => ?_⟩
      rw [Nat.zero_testBit]
      constructor
      · intro z; cases z
      · rintro ⟨z, -⟩
        obtain ⟨j, hj⟩ := h
        exact absurd hj (z j)
  by_cases e1 : p = s
  · rw [if_pos (by rw [e1])]
    exact main (Or.inl e1)
  · rw [if_neg (nI_ne hp hs e1)]
    by_cases e2 : q = s
    · rw [if_pos (by rw [e2])]
      exact main (Or.inr e2)
    · rw [if_neg (nI_ne hq hs e2)]
      unfold f_N_link_b16
      rw [if_pos (Eq.refl (0 : Int32))]
      refine ⟨0, by rw [nI_0], by decide, fun b => ?_⟩
      rw [Nat.zero_testBit]
      constructor
      · intro z; cases z
      · rintro ⟨-, ⟨z, -⟩ | ⟨z, -⟩⟩
        · exact absurd z e1
        · exact absurd z e2
/-- an edge of a triangle, with no site of its circle beyond -/
def tedge (xs ys tk : Nat → Int32) (u : Nat × Nat × Nat) (s b : Nat) : Prop := ∃ p q, ((p = u.1 ∧ q = u.2.1) ∨ (p = u.2.1 ∧ q = u.2.2) ∨ (p = u.2.2 ∧ q = u.1)) ∧ (∀ j, ¬ badd xs ys tk u p q j) ∧ ((p = s ∧ b = q) ∨ (q = s ∧ b = p))
theorem nb_loop (hI : PI xs ys tk) {s : Nat} (hs : s < 20) (hT : HT (TL (Sx tk) (ptf xs ys)) na nb nc) : ∀ (n k A : Nat), (TL (Sx tk) (ptf xs ys)).length - k < n → k ≤ (TL (Sx tk) (ptf xs ys)).length → A < 2 ^ 20 → (∀ b, A.testBit b = true ↔ ∃ j, j < k ∧ tedge xs ys tk ((TL (Sx tk) (ptf xs ys)).getD j (0, 0, 0)) s b) →
    ∃ A' : Nat, f_N_neighbours_L31 tk xs ys n kn (nI (TL (Sx tk) (ptf xs ys)).length) na nb nc (nI s) (nI A) (nI k) = some (nI A', kn, nI (TL (Sx tk) (ptf xs ys)).length, na, nb, nc) ∧ A' < 2 ^ 20 ∧ ∀ b, A'.testBit b = true ↔ ∃ u ∈ TL (Sx tk) (ptf xs ys), tedge xs ys tk u s b := by
  have h40 := TL_40 (PI_dist hI) hI.2.2.2.1
  intro n
  induction n with
  | zero => intro k A h; exact absurd h (Nat.not_lt_zero _)
  | succ n ih =>
    intro k A hn hk hA hb
    rw [f_N_neighbours_L31]
    by_cases e : k = (TL (Sx tk) (ptf xs ys)).length
    · rw [if_pos (show nI (TL (Sx tk) (ptf xs ys)).length ≤ nI k from nI_le (by omega) (by omega))]
      refine ⟨A, rfl, hA, fun b => ?_⟩
      rw [hb b]
      constructor
      · rintro ⟨j, hj, h⟩
        exact ⟨_, gD_mem (by omega), h⟩
      · rintro ⟨u, hu, h⟩
        obtain ⟨j, hj, e2⟩ := gD_ix (d := (0, 0, 0)) hu
        exact ⟨j, by omega, by rw [e2]; exact h⟩
    · have hk' : k < (TL (Sx tk) (ptf xs ys)).length := by omega
      have hu := (TL_mem hI.2.2.2.1).mp (gD_mem (d := (0, 0, 0)) hk')
      have g := hT k hk'
      rw [if_neg (nI_ge hk' (by omega))]
      simp only [if_pos (ix_nI (show k < 40 by omega) (by decide)), cl_nI (show k < 40 by omega) (by decide), nI_1]
      generalize hU : (TL (Sx tk) (ptf xs ys)).getD k (0, 0, 0) = u at hu g
      have ha := hI.2.2.2.1 _ hu.1
      have hb' := hI.2.2.2.1 _ hu.2.1
      have hc := hI.2.2.2.1 _ hu.2.2.1
      have o := hu.2.2.2.1
      have n1 : u.1 ≠ u.2.1 := fun e => by rw [e, ori_aab] at o; omega
      have n2 : u.2.2 ≠ u.1 := fun e => by rw [e, ori_aba] at o; omega
      have n3 : u.2.1 ≠ u.2.2 := fun e => by rw [e, ori_abb] at o; omega
      obtain ⟨m1, f1, l1, t1⟩ := s_Nlink (tk := tk) hI.1 hI.2.1 hI.2.2.2.1 (show k < 40 by omega) g ⟨ha, hb', hc⟩ ha hb' hs n1
      obtain ⟨m2, f2, l2, t2⟩ := s_Nlink (tk := tk) hI.1 hI.2.1 hI.2.2.2.1 (show k < 40 by omega) g ⟨ha, hb', hc⟩ hb' hc hs n3
      obtain ⟨m3, f3, l3, t3⟩ := s_Nlink (tk := tk) hI.1 hI.2.1 hI.2.2.2.1 (show k < 40 by omega) g ⟨ha, hb', hc⟩ hc ha hs n2
      rw [g.1, g.2.1, g.2.2, f1, f2, f3]
      dsimp only [Option.bind]
      rw [or_nI, or_nI, or_nI]
      refine ih (k + 1) (A ||| m1 ||| m2 ||| m3) (by omega) (by omega) (Nat.or_lt_two_pow (Nat.or_lt_two_pow (Nat.or_lt_two_pow hA l1) l2) l3) (fun b => ?_)
      rw [Nat.testBit_or, Nat.testBit_or, Nat.testBit_or, Bool.or_eq_true, Bool.or_eq_true, Bool.or_eq_true, hb b, t1 b, t2 b, t3 b]
      constructor
      · rintro (((⟨j, hj, h⟩ | h) | h) | h)
        · exact ⟨j, by omega, h⟩
        · exact ⟨k, by omega, by rw [hU]; exact ⟨_, _, Or.inl ⟨rfl, rfl⟩, h⟩⟩
        · exact ⟨k, by omega, by rw [hU]; exact ⟨_, _, Or.inr (Or.inl ⟨rfl, rfl⟩), h⟩⟩
        · exact ⟨k, by omega, by rw [hU]; exact ⟨_, _, Or.inr (Or.inr ⟨rfl, rfl⟩), h⟩⟩
      · rintro ⟨j, hj, h⟩
        by_cases z : j = k
        · rw [z, hU] at h
          obtain ⟨p, q, hpq, h⟩ := h
          rcases hpq with ⟨e1, e2⟩ | ⟨e1, e2⟩ | ⟨e1, e2⟩
          · rw [e1, e2] at h; exact Or.inl (Or.inl (Or.inr h))
          · rw [e1, e2] at h; exact Or.inl (Or.inr h)
          · rw [e1, e2] at h; exact Or.inr h
        · exact Or.inl (Or.inl (Or.inl ⟨j, by omega, h⟩))
end W
