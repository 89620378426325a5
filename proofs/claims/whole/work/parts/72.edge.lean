/-! Over each good edge there is a face. -/
theorem par_pos {u w : Int × Int} (hu : lpos u) (hw : lpos w) (h : crs u w = 0) : 0 < dtt u w := by
  rcases Int.lt_trichotomy (dtt u w) 0 with q | q | q
  · exfalso
    have e1 : crs u (-w.1, -w.2) = - crs u w := by unfold crs; dsimp only; grind
    have e2 : dtt u (-w.1, -w.2) = - dtt u w := by unfold dtt; dsimp only; grind
    have k := par_lpos (u := u) (w := (-w.1, -w.2)) (by rw [e1, h]; rfl) (by rw [e2]; omega) hu
    unfold lpos at k hw
    dsimp only at k
    omega
  · exfalso
    have k := par2 h
    rw [q, Int.zero_mul] at k
    have := Int.mul_pos (dtt_pos hu) (dtt_pos hw)
    omega
  · exact q
theorem dot_dtt (f t d : Int × Int) : (d.1 - f.1) * (d.1 - t.1) + (d.2 - f.2) * (d.2 - t.2) = dtt (vec f d) (vec t d) := by unfold dtt vec; rfl
theorem dot_dtt2 (f t d : Int × Int) : (d.1 - f.1) * (d.1 - t.1) + (d.2 - f.2) * (d.2 - t.2) = dtt (vec d f) (vec d t) := by unfold dtt vec; grind
theorem dot_dtt3 (f t d : Int × Int) : (d.1 - f.1) * (d.1 - t.1) + (d.2 - f.2) * (d.2 - t.2) = - dtt (vec f d) (vec d t) := by unfold dtt vec; grind
/-- on the line, not between -/
theorem line_out {f t d : Int × Int} (h0 : ori f t d = 0) (hnb : ¬ ((lex f d ∧ lex d t) ∨ (lex t d ∧ lex d f))) : 0 ≤ (d.1 - f.1) * (d.1 - t.1) + (d.2 - f.2) * (d.2 - t.2) := by
  by_cases a1 : lex d f
  · by_cases a2 : lex d t
    · rw [dot_dtt2]
      refine Int.le_of_lt (par_pos (lpos_vec a1) (lpos_vec a2) ?_)
      rw [← ori_c1, ← ori_rot]
      exact h0
    · by_cases a3 : lex t d
      · exact absurd (Or.inr ⟨a3, a1⟩) hnb
      · have e := lex_tri a2 a3
        rw [e]
        simp
  · by_cases b1 : lex f d
    · by_cases a2 : lex t d
      · rw [dot_dtt]
        refine Int.le_of_lt (par_pos (lpos_vec b1) (lpos_vec a2) ?_)
        rw [← ori_c3, ori_rot]
        exact h0
      · by_cases a3 : lex d t
        · exact absurd (Or.inl ⟨b1, a3⟩) hnb
        · have e := lex_tri a3 a2
          rw [e]
          simp
    · have e := lex_tri a1 b1
      rw [e]
      simp
theorem line_in {f t d : Int × Int} (h0 : ori f t d = 0) (h1 : lex f d) (h2 : lex d t) : (d.1 - f.1) * (d.1 - t.1) + (d.2 - f.2) * (d.2 - t.2) < 0 := by
  rw [dot_dtt3]
  have := par_pos (lpos_vec h1) (lpos_vec h2) (by rw [← ori_c2, ori_sw2, h0]; rfl)
  omega
theorem best_apex {pt : Nat → Int × Int} {f t : Nat} : ∀ l : List Nat, (∃ d ∈ l, 0 < ori (pt f) (pt t) (pt d)) → ∃ a ∈ l, 0 < ori (pt f) (pt t) (pt a) ∧ ∀ d ∈ l, 0 < ori (pt f) (pt t) (pt d) → inc (pt f) (pt t) (pt a) (pt d) ≤ 0 := by
  intro l
  induction l with
  | nil => rintro ⟨d, hd, _⟩; cases hd
  | cons z l ih =>
    intro h
    by_cases hl : ∃ d ∈ l, 0 < ori (pt f) (pt t) (pt d)
    · obtain ⟨a, ha, oa, k⟩ := ih hl
      by_cases hz : 0 < ori (pt f) (pt t) (pt z) ∧ 0 < inc (pt f) (pt t) (pt a) (pt z)
      · refine ⟨z, by simp, hz.1, fun d hd od' => ?_⟩
        rcases List.mem_cons.mp hd with e | hd
        · rw [e, inc_c]; exact Int.le_refl 0
        · exact Int.le_of_lt (apex_step oa hz.1 od' hz.2 (k d hd od'))
      · refine ⟨a, List.mem_cons_of_mem _ ha, oa, fun d hd od' => ?_⟩
        rcases List.mem_cons.mp hd with e | hd
        · rw [e] at od' ⊢
          rcases Int.lt_or_le 0 (inc (pt f) (pt t) (pt a) (pt z)) with q | q
          · exact absurd ⟨od', q⟩ hz
          · exact q
        · exact k d hd od'
    · obtain ⟨d, hd, od'⟩ := h
      have e : d = z := by
        rcases List.mem_cons.mp hd with e | hd
        · exact e
        · exact absurd ⟨d, hd, od'⟩ hl
      subst e
      refine ⟨d, by simp, od', fun y hy oy => ?_⟩
      rcases List.mem_cons.mp hy with e | hy
      · rw [e, inc_c]; exact Int.le_refl 0
      · exact absurd ⟨y, hy, oy⟩ hl
/-- a boundary's edge, or one behind which there is a face -/
def GE (pt : Nat → Int × Int) (od : List Nat) (f t : Nat) : Prop := Nx pt (fun r => r ∈ od) f t ∨ ∃ g, FE pt od t f g
section E
variable {pt : Nat → Int × Int} {od : List Nat} {f t a x y z : Nat}
theorem apex_FE (hf : f ∈ od) (ht : t ∈ od) (hG : GE pt od f t) (ha : a ∈ od) (oa : 0 < ori (pt f) (pt t) (pt a)) (hl : ∀ d ∈ od, 0 < ori (pt f) (pt t) (pt d) → inc (pt f) (pt t) (pt a) (pt d) ≤ 0) : FE pt od f t a := by
  rcases hG with hN | ⟨g, hg⟩
  · refine ⟨⟨hf, ht, ha, oa, fun d hd => ?_⟩, fun d hd _ => hN.2.1 d hd⟩
    rcases Int.lt_or_eq_of_le (hN.2.1 d hd) with q | q
    · exact hl d hd q
    · refine apex_line oa q.symm (line_out q.symm (fun k => ?_))
      have := hN.2.2 d hd k
      omega
  · have og := hg.1.2.2.2.1
    rw [ori_swap] at og
    have ea := hg.1.2.2.2.2 a ha
    refine ⟨⟨hf, ht, ha, oa, fun d hd => ?_⟩, fun d hd zz => ?_⟩
    · rcases Int.lt_or_le 0 (ori (pt f) (pt t) (pt d)) with q | q
      · exact hl d hd q
      · exact apex_right oa (by omega) ea (hg.1.2.2.2.2 d hd) q
    · rcases Int.lt_or_le (ori (pt f) (pt t) (pt d)) 0 with q | q
      · exfalso
        have ea' : inc (pt t) (pt f) (pt g) (pt a) ≠ 0 := fun e => by
          have := hg.2 a ha e
          rw [ori_swap] at this
          omega
        have pl := inc_pl (pt f) (pt t) (pt a) (pt g) (pt d)
        rw [zz, inc_swap (pt t) (pt f) (pt g) (pt d), inc_swap (pt t) (pt f) (pt g) (pt a), Int.zero_mul, Int.neg_mul, Int.neg_mul] at pl
        have m1 := Int.mul_nonpos_of_nonpos_of_nonneg (hg.1.2.2.2.2 d hd) (Int.le_of_lt oa)
        have m2 := Int.mul_pos_of_neg_of_neg (show inc (pt t) (pt f) (pt g) (pt a) < 0 by omega) q
        omega
      · exact q
theorem across_FE (hF : FE pt od x y z) (hs : ∃ d ∈ od, ori (pt x) (pt y) (pt d) < 0) : ∃ g, FE pt od y x g := by
  obtain ⟨a, ha, oa, hl⟩ := best_apex (pt := pt) (f := y) (t := x) od (by
    obtain ⟨d, hd, q⟩ := hs
    exact ⟨d, hd, by rw [ori_swap]; omega⟩)
  exact ⟨a, apex_FE hF.1.2.1 hF.1.1 (Or.inr ⟨z, hF⟩) ha oa hl⟩
theorem od_cmp (hp : od.Pairwise (fun a b => lex (pt a) (pt b))) {i j : Nat} (hi : i ∈ od) (hj : j ∈ od) : i = j ∨ lex (pt i) (pt j) ∨ lex (pt j) (pt i) := by
  obtain ⟨p, hp1, rfl⟩ := od_ix hi
  obtain ⟨q, hq1, rfl⟩ := od_ix hj
  rcases Nat.lt_trichotomy p q with h | h | h
  · exact Or.inr (Or.inl (pw_get (R := fun a b => lex (pt a) (pt b)) hp h hq1))
  · exact Or.inl (by rw [h])
  · exact Or.inr (Or.inr (pw_get (R := fun a b => lex (pt a) (pt b)) hp h hp1))
theorem side_Nx (hp : od.Pairwise (fun a b => lex (pt a) (pt b))) (hF : FE pt od x y z) (hs : ∀ d ∈ od, 0 ≤ ori (pt x) (pt y) (pt d)) : Nx pt (fun r => r ∈ od) x y := by
  have o := hF.1.2.2.2.1
  refine ⟨?_, hs, fun r hr k => ?_⟩
  · rcases od_cmp hp hF.1.1 hF.1.2.1 with q | q
    · rw [q, ori_aab] at o; omega
    · exact q
  · rcases Int.lt_or_eq_of_le (hs r hr) with q | q
    · exact q
    · exfalso
      have e := hF.1.2.2.2.2 r hr
      rw [inc_line q.symm] at e
      have hd : ((pt r).1 - (pt x).1) * ((pt r).1 - (pt y).1) + ((pt r).2 - (pt x).2) * ((pt r).2 - (pt y).2) < 0 := by
        rcases k with k | k
        · exact line_in q.symm k.1 k.2
        · have := line_in (f := pt y) (t := pt x) (d := pt r) (by rw [ori_swap]; omega) k.1 k.2
          have e2 : ((pt r).1 - (pt x).1) * ((pt r).1 - (pt y).1) + ((pt r).2 - (pt x).2) * ((pt r).2 - (pt y).2) = ((pt r).1 - (pt y).1) * ((pt r).1 - (pt x).1) + ((pt r).2 - (pt y).2) * ((pt r).2 - (pt x).2) := by grind
          omega
      have := Int.mul_neg_of_pos_of_neg o hd
      omega
end E
