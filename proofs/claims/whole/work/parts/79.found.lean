/-! When nothing waits any more, every face is found: one that is not, of the largest slope, would have a found one beyond its rising edge. -/
theorem slope_eq {p1 o1 p2 o2 p3 o3 : Int} (h1 : 0 < o1) (h2 : 0 < o2) (k1 : p1 * o2 = p2 * o1) (k2 : p2 * o3 < p3 * o2) : p1 * o3 < p3 * o1 := by
  have a2 := Int.mul_lt_mul_of_pos_right k2 h1
  have e1 : o2 * (p1 * o3) = p2 * o3 * o1 := by
    have : o2 * (p1 * o3) = (p1 * o2) * o3 := by grind
    rw [this, k1]
    grind
  have e3 : p3 * o2 * o1 = o2 * (p3 * o1) := by grind
  have a3 : o2 * (p1 * o3) < o2 * (p3 * o1) := by omega
  exact Int.lt_of_mul_lt_mul_left a3 (Int.le_of_lt h2)
section F
variable {pt : Nat → Int × Int} {od B R : List Nat} {f t a : Nat}
theorem ring_up (hE : Emp pt od f t a) (hR : Rg pt od R f t a) : ∃ x y, RE R x y ∧ (pt x).2 < (pt y).2 := by
  apply Classical.byContradiction
  intro hn
  have h3 := rg_len hE hR
  have dn : ∀ x y, RE R x y → (pt y).2 ≤ (pt x).2 := fun x y h => Int.not_lt.mp (fun q => hn ⟨x, y, h, q⟩)
  have st : ∀ i, i + 1 < R.length → (pt (R.getD (i + 1) 0)).2 ≤ (pt (R.getD i 0)).2 := fun i hi => dn _ _ ⟨i, by omega, rfl, by rw [if_pos hi]⟩
  have tl : ∀ k, 2 + k < R.length → (pt (R.getD (2 + k) 0)).2 ≤ (pt (R.getD 2 0)).2 := by
    intro k
    induction k with
    | zero => intro _; exact Int.le_refl _
    | succ k ih =>
      intro hk
      have a1 := st (2 + k) (by omega)
      have a2 := ih (by omega)
      rw [show 2 + (k + 1) = 2 + k + 1 by omega]
      omega
  have a1 := st 0 (by omega)
  have a2 := st 1 (by omega)
  have a3 := tl (R.length - 1 - 2) (by omega)
  have a4 := dn (R.getD (R.length - 1) 0) (R.getD 0 0) ⟨R.length - 1, by omega, rfl, by rw [if_neg (by omega)]⟩
  rw [show 2 + (R.length - 1 - 2) = R.length - 1 by omega] at a3
  have o := rg_cyc hE hR (show 0 < 1 by omega) (show 1 < 2 by omega) (by omega)
  have e1 : (pt (R.getD 1 0)).2 = (pt (R.getD 0 0)).2 := by
    have : (pt (R.getD (0 + 1) 0)).2 = (pt (R.getD 1 0)).2 := rfl
    have : (pt (R.getD (1 + 1) 0)).2 = (pt (R.getD 2 0)).2 := rfl
    omega
  have e2 : (pt (R.getD 2 0)).2 = (pt (R.getD 0 0)).2 := by
    have : (pt (R.getD (0 + 1) 0)).2 = (pt (R.getD 1 0)).2 := rfl
    have : (pt (R.getD (1 + 1) 0)).2 = (pt (R.getD 2 0)).2 := rfl
    omega
  unfold ori at o
  rw [e1, e2, Int.sub_self, Int.mul_zero, Int.zero_mul] at o
  omega
theorem all_found (hm : ∀ a ∈ od, a < 20) (hp : od.Pairwise (fun a b => lex (pt a) (pt b))) (hBE : ∀ x y, BE B x y ↔ x ∈ od ∧ y ∈ od ∧ Nx pt (fun r => r ∈ od) x y) (hRing : ∀ f t a, Emp pt od f t a → ∃ R, Rg pt od R f t a) {Fd : List Nat → Prop} {lk : Nat → Nat → Prop}
    (i1 : ∀ R, Fd R → ∃ f t a, Emp pt od f t a ∧ Rg pt od R f t a) (i2 : ∀ x y, lk x y ↔ BE B y x ∨ ∃ R, Fd R ∧ RE R x y) (hcl : ∀ x y, lk y x → lk x y) : ∀ f t a, FE pt od f t a → ∃ R, Fd R ∧ RE R f t := by
  intro f0 t0 a0 hF0
  apply Classical.byContradiction
  intro hno
  have hmem : ∀ u : Nat × Nat × Nat, u ∈ (sufA 0).filter (fun u => @decide (FE pt od u.1 u.2.1 u.2.2 ∧ ¬ ∃ R, Fd R ∧ RE R u.1 u.2.1) (Classical.propDecidable _)) ↔ (FE pt od u.1 u.2.1 u.2.2 ∧ ¬ ∃ R, Fd R ∧ RE R u.1 u.2.1) := by
    intro u
    rw [List.mem_filter, mem_sufA]
    have := @decide_eq_true_iff (FE pt od u.1 u.2.1 u.2.2 ∧ ¬ ∃ R, Fd R ∧ RE R u.1 u.2.1) (Classical.propDecidable _)
    rw [this]
    exact ⟨fun q => q.2, fun q => ⟨⟨⟨Nat.zero_le _, hm _ q.1.1.1⟩, hm _ q.1.1.2.1, hm _ q.1.1.2.2.1⟩, q⟩⟩
  obtain ⟨u, hu, hmax⟩ := ex_max (fun u v : Nat × Nat × Nat => gx (pt u.1) (pt u.2.1) (pt u.2.2) * ori (pt v.1) (pt v.2.1) (pt v.2.2) < gx (pt v.1) (pt v.2.1) (pt v.2.2) * ori (pt u.1) (pt u.2.1) (pt u.2.2)) (fun u => 0 < ori (pt u.1) (pt u.2.1) (pt u.2.2)) (fun x _ h => Int.lt_irrefl _ h) (fun x y z hx hy hz h1 h2 => slope_tr hx hy hz h1 h2) _ (fun x hx => ((hmem x).mp hx).1.1.2.2.2.1) (List.ne_nil_of_mem ((hmem (f0, t0, a0)).mpr ⟨hF0, hno⟩))
  obtain ⟨hF, hno⟩ := (hmem u).mp hu
  obtain ⟨f, t, a⟩ := u
  dsimp only at hF hno hmax
  have hE := hF.1
  obtain ⟨R, hR⟩ := hRing f t a hE
  have hre := FE_RE hF hR
  obtain ⟨x, y, hxy, hup⟩ := ring_up hE hR
  have nofound : ¬ ∃ R', Fd R' ∧ RE R' x y := by
    rintro ⟨R', k1, k2⟩
    obtain ⟨f', t', a', hE', hR'⟩ := i1 R' k1
    exact hno ⟨R', k1, RE_same hE hR hE' hR' (RE_uniq hE hR hE' hR' hxy k2) hre⟩
  obtain ⟨z, hz, hF2, hR2⟩ := RE_FE hE hR hxy
  have oz := hF2.1.2.2.2.1
  have notlk : ¬ lk x y := by
    intro q
    rcases (i2 x y).mp q with k | k
    · obtain ⟨-, -, k⟩ := (hBE y x).mp k
      have a2 := k.2.1 z hF2.1.2.2.1
      rw [ori_swap] at a2
      omega
    · exact nofound k
  by_cases k : ∃ d ∈ od, ori (pt x) (pt y) (pt d) < 0
  · obtain ⟨g, hg⟩ := across_FE hF2 k
    have og := hg.1.2.2.2.1
    have hs := gx_step (pt x) (pt y) (pt z) (pt g)
    have hneg : inc (pt y) (pt x) (pt g) (pt z) < 0 := by
      rcases Int.lt_or_eq_of_le (hg.1.2.2.2.2 z hF2.1.2.2.1) with q | q
      · exact q
      · exfalso
        have := hg.2 z hF2.1.2.2.1 q
        rw [ori_swap] at this
        omega
    have hprod := Int.mul_neg_of_neg_of_pos hneg (show 0 < (pt y).2 - (pt x).2 by omega)
    have sc := same_circle (Int.ne_of_gt oz) ((hR.1 x).mp (RE_ne hE hR hxy).1).2 ((hR.1 y).mp (RE_ne hE hR hxy).2.1).2 ((hR.1 z).mp hz).2
    have hsame := gx_same sc
    have hlt := slope_eq hE.2.2.2.1 oz hsame (show gx (pt x) (pt y) (pt z) * ori (pt y) (pt x) (pt g) < gx (pt y) (pt x) (pt g) * ori (pt x) (pt y) (pt z) by omega)
    have hfound : ∃ R, Fd R ∧ RE R y x := by
      apply Classical.byContradiction
      intro q
      exact hmax (y, x, g) ((hmem (y, x, g)).mpr ⟨hg, q⟩) hlt
    exact notlk (hcl x y ((i2 y x).mpr (Or.inr hfound)))
  · have hN := side_Nx hp hF2 (fun d hd => Int.not_lt.mp (fun r => k ⟨d, hd, r⟩))
    exact notlk (hcl x y ((i2 y x).mpr (Or.inl ((hBE x y).mpr ⟨hF2.1.1, hF2.1.2.1, hN⟩))))
end F
theorem srt_ext {α : Type} (r : α → α → Prop) (has : ∀ x y, r x y → ¬ r y x) : ∀ l l' : List α, l.Pairwise r → l'.Pairwise r → (∀ u, u ∈ l ↔ u ∈ l') → l = l' := by
  intro l
  induction l with
  | nil =>
    intro l' _ _ h
    cases l' with
    | nil => rfl
    | cons b l' => exact absurd ((h b).mpr (by simp)) (by simp)
  | cons a l ih =>
    intro l' h1 h2 h
    cases l' with
    | nil => exact absurd ((h a).mp (by simp)) (by simp)
    | cons b l' =>
      rw [List.pairwise_cons] at h1 h2
      have e : a = b := by
        rcases List.mem_cons.mp ((h a).mp (by simp)) with q | q
        · exact q
        · rcases List.mem_cons.mp ((h b).mpr (by simp)) with q2 | q2
          · exact q2.symm
          · exact absurd (h1.1 b q2) (has _ _ (h2.1 a q))
      subst e
      have ir : ∀ x, ¬ r x x := fun x q => has x x q q
      congr 1
      refine ih l' h1.2 h2.2 (fun u => ?_)
      constructor
      · intro q
        rcases List.mem_cons.mp ((h u).mp (List.mem_cons_of_mem _ q)) with k | k
        · rw [k] at q; exact absurd (h1.1 a q) (ir a)
        · exact k
      · intro q
        rcases List.mem_cons.mp ((h u).mpr (List.mem_cons_of_mem _ q)) with k | k
        · rw [k] at q; exact absurd (h2.1 a q) (ir a)
        · exact k
theorem key_key {s t : Nat × Nat × Nat} (hs : t20 s) (ht : t20 t) (h : tkey s < tkey t) : key3 s < key3 t := by
  obtain ⟨a, b, c⟩ := s
  obtain ⟨a', b', c'⟩ := t
  unfold t20 at hs ht
  unfold tkey at h
  unfold key3
  dsimp only at hs ht h ⊢
  omega
