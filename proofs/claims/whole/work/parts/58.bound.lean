/-! The boundary as a list: reading the row; all on one line; no site on both chains. -/
theorem rev_get {b : Nat} {R : List Nat} {k : Nat} : (b :: R).reverse.getD k 0 = if k < R.length then R.reverse.getD k 0 else if k = R.length then b else 0 := by
  rw [List.reverse_cons]
  simp only [List.getD_eq_getElem?_getD]
  rw [List.getElem?_append, List.length_reverse]
  by_cases h : k < R.length
  · rw [if_pos h, if_pos h]
  · rw [if_neg h, if_neg h]
    by_cases h2 : k = R.length
    · rw [if_pos h2, h2, Nat.sub_self]; rfl
    · rw [if_neg h2, List.getElem?_eq_none (by simp; omega)]; rfl
theorem HRr_get {row : Nat → Int32} : ∀ {R : List Nat}, HRr R row → ∀ k, k < R.length → row k = nI (R.reverse.getD k 0) := by
  intro R
  induction R with
  | nil => intro _ k hk; exact absurd hk (Nat.not_lt_zero _)
  | cons b R ih =>
    intro h k hk
    rw [rev_get]
    by_cases h1 : k < R.length
    · rw [if_pos h1]; exact ih h.2 k h1
    · have h2 : k = R.length := by rw [List.length_cons] at hk; omega
      rw [if_neg h1, if_pos h2, h2]; exact h.1
theorem Adj_get {pt : Nat → Int × Int} {pr : Nat → Prop} : ∀ {R : List Nat}, AdjOK pt pr R → ∀ i, i + 1 < R.length → Nx pt pr (R.reverse.getD i 0) (R.reverse.getD (i + 1) 0) := by
  intro R
  induction R with
  | nil => intro _ i hi; exact absurd hi (Nat.not_lt_zero _)
  | cons b R ih =>
    intro h i hi
    rw [List.length_cons] at hi
    cases R with
    | nil => simp at hi
    | cons a R =>
      by_cases h1 : i + 1 < (a :: R).length
      · have := ih h.2 i h1
        rw [rev_get (b := b) (R := a :: R) (k := i), rev_get (b := b) (R := a :: R) (k := i + 1), if_pos (show i < (a :: R).length by omega), if_pos h1]
        exact this
      · have h2 : i + 1 = (a :: R).length := by omega
        have h3 : i = R.length := by rw [List.length_cons] at h2; omega
        rw [rev_get (b := b) (R := a :: R) (k := i), rev_get (b := b) (R := a :: R) (k := i + 1), if_pos (show i < (a :: R).length by omega), if_neg h1, if_pos h2, rev_get (b := a) (R := R) (k := i), if_neg (show ¬ i < R.length by omega), if_pos h3]
        exact h.1
theorem crs_two {u x y : Int × Int} (hu : 0 < dtt u u) (h1 : crs u x = 0) (h2 : crs u y = 0) : crs x y = 0 := by
  have e : dtt u u * crs x y = dtt u x * crs u y - dtt u y * crs u x := by unfold dtt crs; grind
  rw [h1, h2, Int.mul_zero, Int.mul_zero, Int.sub_zero] at e
  exact (Int.mul_eq_zero.mp e).resolve_left (by omega)
/-- flat: any three are on one line -/
theorem flat_all {pt : Nat → Int × Int} {od : List Nat} (hp : od.Pairwise (fun a b => lex (pt a) (pt b))) (hf : flatL pt od) : ∀ a ∈ od, ∀ b ∈ od, ∀ c ∈ od, ori (pt a) (pt b) (pt c) = 0 := by
  intro a ha b hb c hc
  by_cases h2 : od.length < 2
  · -- one site alone
    have one : ∀ x ∈ od, ∀ y ∈ od, x = y := by
      intro x hx y hy
      obtain ⟨i, hi, rfl⟩ := List.mem_iff_getElem.mp hx
      obtain ⟨j, hj, rfl⟩ := List.mem_iff_getElem.mp hy
      have : i = j := by omega
      subst this
      rfl
    rw [one a ha b hb, ori_aab]
  · have l01 := pw_get hp (i := 0) (j := 1) (by omega) (by omega)
    have hu := dtt_pos (lpos_vec l01)
    have line : ∀ x ∈ od, crs (vec (pt (od.getD 0 0)) (pt (od.getD 1 0))) (vec (pt (od.getD 0 0)) (pt x)) = 0 := by
      intro x hx
      rw [← ori_c1]
      obtain ⟨i, hi, e⟩ := List.mem_iff_getElem.mp hx
      have e' : od.getD i 0 = x := by rw [List.getD_eq_getElem?_getD, List.getElem?_eq_getElem hi]; exact e
      rw [← e']
      by_cases h3 : i = 0
      · rw [h3, ori_aba]
      · by_cases h4 : i = 1
        · rw [h4, ori_abb]
        · exact hf i (by omega) hi
    rw [ori_c1]
    refine crs_two hu ?_ ?_
    · have e : crs (vec (pt (od.getD 0 0)) (pt (od.getD 1 0))) (vec (pt a) (pt b)) = crs (vec (pt (od.getD 0 0)) (pt (od.getD 1 0))) (vec (pt (od.getD 0 0)) (pt b)) - crs (vec (pt (od.getD 0 0)) (pt (od.getD 1 0))) (vec (pt (od.getD 0 0)) (pt a)) := by unfold crs vec; grind
      rw [e, line a ha, line b hb]; rfl
    · have e : crs (vec (pt (od.getD 0 0)) (pt (od.getD 1 0))) (vec (pt a) (pt c)) = crs (vec (pt (od.getD 0 0)) (pt (od.getD 1 0))) (vec (pt (od.getD 0 0)) (pt c)) - crs (vec (pt (od.getD 0 0)) (pt (od.getD 1 0))) (vec (pt (od.getD 0 0)) (pt a)) := by unfold crs vec; grind
      rw [e, line a ha, line c hc]; rfl
theorem flat_push {pt : Nat → Int × Int} {od : List Nat} (hall : ∀ a ∈ od, ∀ b ∈ od, ∀ c ∈ od, ori (pt a) (pt b) (pt c) = 0) : ∀ (l R : List Nat), (∀ x ∈ R, x ∈ od) → (∀ x ∈ l, x ∈ od) → pushAll pt R l = l.reverse ++ R := by
  intro l
  induction l with
  | nil => intro R _ _; rfl
  | cons s l ih =>
    intro R hR hl
    have hs := hl s (by simp)
    have nopop : popR pt R s = R := by
      cases R with
      | nil => rfl
      | cons b R =>
        cases R with
        | nil => rfl
        | cons a R => rw [popR, hall a (hR a (by simp)) b (hR b (by simp)) s hs, if_neg (by omega)]
    rw [pushAll, nopop, ih (s :: R) (fun x hx => by
      rcases List.mem_cons.mp hx with rfl | hx
      · exact hs
      · exact hR x hx) (fun x hx => hl x (List.mem_cons_of_mem _ hx))]
    simp
/-- flat: no triangle -/
theorem flat_TL {xs ys tk ord : Nat → Int32} {pn : Int32} {od : List Nat} (hI : PI xs ys tk) (hO : OI xs ys tk ord pn od) (hf : flatL (ptf xs ys) od) : TL (Sx tk) (ptf xs ys) = [] := by
  apply List.eq_nil_iff_forall_not_mem.mpr
  intro t ht
  have h := (TL_mem (S := Sx tk) (pt := ptf xs ys) hI.2.2.2.1).mp ht
  have := flat_all hO.2.2.1 hf t.1 ((hO.2.2.2 _).mpr h.1) t.2.1 ((hO.2.2.2 _).mpr h.2.1) t.2.2 ((hO.2.2.2 _).mpr h.2.2.1)
  have o := h.2.2.2.1
  omega
/-- a site within both chains: then all are on one line -/
theorem both_flat {pt : Nat → Int × Int} {pr : Nat → Prop} {x a b g : Nat} (px : pr x) (pa : pr a) (pb : pr b) (pg : pr g) (h1 : EdgeOK pt pr a x) (h2 : EdgeOK pt pr x b) (h3 : EdgeOK (npt pt) pr x g) (htri : ∀ r, pr r → r = x ∨ lex (pt r) (pt x) ∨ lex (pt x) (pt r)) : ∀ r, pr r → ori (pt a) (pt x) (pt r) = 0 := by
  have e : lpos (vec (pt a) (pt x)) := lpos_vec h1.1
  have e2 : lpos (vec (pt x) (pt b)) := lpos_vec h2.1
  have h : lpos (vec (pt g) (pt x)) := lpos_vec (npt_lex.mp h3.1)
  have up : ∀ r, pr r → 0 ≤ ori (pt x) (pt g) (pt r) := fun r hr => by rw [← npt_ori]; exact h3.2.1 r hr
  have k1 : 0 ≤ crs (vec (pt a) (pt x)) (vec (pt x) (pt b)) := by rw [← ori_c2]; exact h1.2.1 b pb
  have k2 : 0 ≤ crs (vec (pt g) (pt x)) (vec (pt a) (pt x)) := by rw [← ori_c3]; exact h1.2.1 g pg
  have k3 : crs (vec (pt g) (pt x)) (vec (pt x) (pt b)) ≤ 0 := by
    have := up b pb
    have e4 : ori (pt x) (pt g) (pt b) = - crs (vec (pt g) (pt x)) (vec (pt x) (pt b)) := by unfold ori crs vec; grind
    omega
  have k4 : crs (vec (pt g) (pt x)) (vec (pt a) (pt x)) = 0 := by
    rcases Int.lt_or_eq_of_le k2 with q | q
    · have := hp_tr1 h e e2 q k1
      omega
    · exact q.symm
  have pos : 0 < dtt (vec (pt g) (pt x)) (vec (pt a) (pt x)) := by
    have s := par2 k4
    have d1 := dtt_pos h
    have d2 := dtt_pos e
    have d3 := Int.mul_pos d1 d2
    have nn : 0 ≤ dtt (vec (pt g) (pt x)) (vec (pt a) (pt x)) := by
      unfold lpos at h e
      unfold dtt
      have par := par1 k4
      rcases Int.lt_or_le (dtt (vec (pt g) (pt x)) (vec (pt a) (pt x))) 0 with q | q
      · exfalso
        obtain ⟨p1, p2⟩ := par
        rcases h with q1 | ⟨q1, q2⟩
        · have m1 := Int.mul_neg_of_neg_of_pos q q1
          have m2 := Int.mul_nonneg (Int.le_of_lt d1) (show 0 ≤ (vec (pt a) (pt x)).1 by omega)
          omega
        · have m1 := Int.mul_neg_of_neg_of_pos q q2
          rw [q1, Int.mul_zero] at p1
          have z := (Int.mul_eq_zero.mp p1).resolve_left (by omega)
          have m2 := Int.mul_nonneg (Int.le_of_lt d1) (show 0 ≤ (vec (pt a) (pt x)).2 by omega)
          omega
      · exact q
    rcases Int.lt_or_eq_of_le nn with q | q
    · exact q
    · rw [← q, Int.zero_mul] at s
      omega
  intro r hr
  have a1 := h1.2.1 r hr
  have a2 := up r hr
  have e5 : ori (pt x) (pt g) (pt r) = - crs (vec (pt g) (pt x)) (vec (pt x) (pt r)) := by unfold ori crs vec; grind
  have p3 := par3 (vec (pt x) (pt r)) k4
  rw [ori_c2] at a1 ⊢
  have d1 := dtt_pos h
  -- dtt g g * crs e w = dtt * crs h w : the left is not negative, the right not positive
  have m1 := Int.mul_nonneg (Int.le_of_lt d1) a1
  have m2 := Int.mul_nonpos_of_nonneg_of_nonpos (Int.le_of_lt pos) (show crs (vec (pt g) (pt x)) (vec (pt x) (pt r)) ≤ 0 by omega)
  have m3 : dtt (vec (pt g) (pt x)) (vec (pt g) (pt x)) * crs (vec (pt a) (pt x)) (vec (pt x) (pt r)) = 0 := by omega
  exact (Int.mul_eq_zero.mp m3).resolve_left (by omega)
