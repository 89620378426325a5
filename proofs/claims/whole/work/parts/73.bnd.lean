/-! The boundary's edges are all that have every site on their left. -/
def BE (B : List Nat) (x y : Nat) : Prop := ∃ i, i < B.length ∧ y = B.getD i 0 ∧ x = prevB B i
theorem Bot_mem {m : Nat} : ∀ R : List Nat, Bot m R → m ∈ R := by
  intro R
  induction R with
  | nil => intro h; exact absurd h id
  | cons b R ih =>
    intro h
    cases R with
    | nil =>
      have e : b = m := h
      rw [e]; simp
    | cons a R => exact List.mem_cons_of_mem _ (ih h)
theorem crossing {P : Nat → Prop} (h0 : P 0) : ∀ j, ¬ P j → ∃ i, i < j ∧ P i ∧ ¬ P (i + 1) := by
  intro j
  induction j with
  | zero => intro h; exact absurd h0 h
  | succ j ih =>
    intro h
    by_cases q : P j
    · exact ⟨j, by omega, q, h⟩
    · obtain ⟨i, hi, k⟩ := ih q
      exact ⟨i, by omega, k⟩
section N
variable {pt : Nat → Int × Int} {od : List Nat}
theorem bnd_last {m L : Nat} (hm : od.head? = some m) (hL : od.getLast? = some L) (hp : od.Pairwise (fun a b => lex (pt a) (pt b))) (hnf : ¬ flatL pt od) : L ∈ bnd pt od := by
  obtain ⟨-, -, -, hpos, h0, -⟩ := bnd_ok hm hp hnf
  obtain ⟨P, U, -, hch, hU, -, hB2, -⟩ := chain_ok hm hL hp
  cases U with
  | nil => cases hU
  | cons d V =>
    have hd : d = m := by simpa using hU
    have hmem := Bot_mem _ hB2
    rcases List.mem_cons.mp hmem with e | e
    · rw [e, hd, ← h0]; exact getD_mem hpos
    · unfold bnd
      rw [hch, List.mem_reverse]
      exact List.mem_append_left _ e
theorem nx_uniq {p b q : Nat} (hp : od.Pairwise (fun a b => lex (pt a) (pt b))) (hnf : ¬ flatL pt od) (mp : p ∈ od) (mb : b ∈ od) (mq : q ∈ od) (h1 : Nx pt (fun r => r ∈ od) p b) (h2 : Nx pt (fun r => r ∈ od) p q) : b = q := by
  have off : ∀ {c : Nat}, Nx pt (fun r => r ∈ od) p c → ∃ r, r ∈ od ∧ ori (pt p) (pt c) (pt r) ≠ 0 := by
    intro c hc
    apply Classical.byContradiction
    intro hn
    exact hnf (line_flat hc.1 (fun r hr => Classical.byContradiction (fun q => hn ⟨r, hr, q⟩)))
  have ne : ∀ {c : Nat}, Nx pt (fun r => r ∈ od) p c → pt c ≠ pt p := by
    intro c hc e
    rcases hc.1 with k | k
    · rw [e] at k; exact lex_ir k
    · rw [e] at k; exact lex_ir k
  rcases od_cmp hp mb mq with e | e
  · exact e
  · exfalso
    have hne : pt b ≠ pt q := by
      intro k
      rcases e with e | e
      · rw [k] at e; exact lex_ir e
      · rw [k] at e; exact lex_ir e
    obtain ⟨r1, m1, o1⟩ := off h1
    obtain ⟨r2, m2, o2⟩ := off h2
    have k1 := nx_near (pr := fun r => r ∈ od) h1 mb mq m1 o1 h2.2.1 (ne h2) (fun k => hne k.symm)
    have k2 := nx_near (pr := fun r => r ∈ od) h2 mq mb m2 o2 h1.2.1 (ne h1) hne
    omega
theorem bnd_Nx {m x y : Nat} (hm : od.head? = some m) (hp : od.Pairwise (fun a b => lex (pt a) (pt b))) (hnf : ¬ flatL pt od) (h : BE (bnd pt od) x y) : x ∈ od ∧ y ∈ od ∧ Nx pt (fun r => r ∈ od) x y := by
  obtain ⟨-, -, hsub, hpos, h0, -, hn1, hn2⟩ := bnd_ok hm hp hnf
  obtain ⟨i, hi, ey, ex⟩ := h
  unfold prevB at ex
  by_cases q : i = 0
  · rw [if_pos q] at ex
    rw [q, h0] at ey
    subst ex ey
    exact ⟨hsub _ (getD_mem (by omega)), by rw [← h0]; exact hsub _ (getD_mem hpos), hn2 _ (by omega)⟩
  · rw [if_neg q] at ex
    subst ex ey
    have := hn1 (i - 1) (by omega)
    rw [show i - 1 + 1 = i by omega] at this
    exact ⟨hsub _ (getD_mem (by omega)), hsub _ (getD_mem hi), this⟩
theorem Nx_bnd {m x y : Nat} (hm : od.head? = some m) (hp : od.Pairwise (fun a b => lex (pt a) (pt b))) (hnf : ¬ flatL pt od) (mx : x ∈ od) (my : y ∈ od) (h : Nx pt (fun r => r ∈ od) x y) : BE (bnd pt od) x y := by
  obtain ⟨-, -, hsub, hpos, h0, -, hn1, hn2⟩ := bnd_ok hm hp hnf
  obtain ⟨L, hL⟩ : ∃ L, od.getLast? = some L := by
    cases hq : od.getLast? with
    | none => rw [List.getLast?_eq_none_iff.mp hq] at mx; cases mx
    | some L => exact ⟨L, rfl⟩
  obtain ⟨j, hj, ej⟩ := od_ix (bnd_last hm hL hp hnf)
  have first : ∀ r ∈ od, r = m ∨ lex (pt m) (pt r) := by
    intro r hr
    cases od with
    | nil => cases hr
    | cons q rest =>
      have e : q = m := by simpa using hm
      rcases List.mem_cons.mp hr with k | k
      · exact Or.inl (k.trans e)
      · rw [← e]; exact Or.inr ((List.pairwise_cons.mp hp).1 r k)
  have last : ∀ r ∈ od, r = L ∨ lex (pt r) (pt L) := by
    intro r hr
    obtain ⟨zs, e⟩ := List.getLast?_eq_some_iff.mp hL
    rw [e] at hr hp
    rcases List.mem_append.mp hr with k | k
    · exact Or.inr ((List.pairwise_append.mp hp).2.2 r k L (by simp))
    · exact Or.inl (by simpa using k)
  rcases h.1 with hl | hl
  · have hxL : lex (pt x) (pt L) := by
      rcases last y my with e | e
      · rw [← e]; exact hl
      · exact lex_tr hl e
    obtain ⟨i, hi, k1, k2⟩ := crossing (P := fun i => (bnd pt od).getD i 0 = x ∨ lex (pt ((bnd pt od).getD i 0)) (pt x)) (by
      rcases first x mx with e | e
      · exact Or.inl (by rw [h0, e])
      · exact Or.inr (by rw [h0]; exact e)) j (by
      show ¬ ((bnd pt od).getD j 0 = x ∨ lex (pt ((bnd pt od).getD j 0)) (pt x))
      rw [ej]
      rintro (e | e)
      · rw [e] at hxL; exact lex_ir hxL
      · exact lex_asym e hxL)
    have k1 : (bnd pt od).getD i 0 = x ∨ lex (pt ((bnd pt od).getD i 0)) (pt x) := k1
    have k2 : ¬ ((bnd pt od).getD (i + 1) 0 = x ∨ lex (pt ((bnd pt od).getD (i + 1) 0)) (pt x)) := k2
    have mi := hsub _ (getD_mem (show i < (bnd pt od).length by omega))
    have mi1 := hsub _ (getD_mem (show i + 1 < (bnd pt od).length by omega))
    have hN := hn1 i (by omega)
    generalize hpp : (bnd pt od).getD i 0 = p at k1 mi hN
    generalize hqq : (bnd pt od).getD (i + 1) 0 = q at k2 mi1 hN
    have hxq : lex (pt x) (pt q) := by
      rcases od_cmp hp mx mi1 with e | e | e
      · exact absurd (Or.inl e.symm) k2
      · exact e
      · exact absurd (Or.inr e) k2
    have epx : p = x := by
      rcases k1 with e | e
      · exact e
      · exfalso
        have c1 := hN.2.2 x mx (Or.inl ⟨e, hxq⟩)
        have c2 := h.2.1 p mi
        have c3 := h.2.1 q mi1
        rw [ori_c4] at c2
        rw [ori_c1] at c3
        have c4 := hp_tr (lpos_vec e) (lpos_vec hl) (lpos_vec hxq) c2 c3
        rw [← ori_c2, ori_sw2] at c4
        omega
    subst epx
    have eqy : q = y := nx_uniq hp hnf mx mi1 my hN h
    refine ⟨i + 1, by omega, by rw [hqq, eqy], ?_⟩
    unfold prevB
    rw [if_neg (by omega), show i + 1 - 1 = i by omega, hpp]
  · have hmx : lex (pt m) (pt x) := by
      rcases first y my with e | e
      · rw [← e]; exact hl
      · exact lex_tr e hl
    obtain ⟨k, hk, k1, k2⟩ := crossing (P := fun k => (if j + k < (bnd pt od).length then (bnd pt od).getD (j + k) 0 else m) = x ∨ lex (pt x) (pt (if j + k < (bnd pt od).length then (bnd pt od).getD (j + k) 0 else m))) (by
      show (if j + 0 < (bnd pt od).length then (bnd pt od).getD (j + 0) 0 else m) = x ∨ lex (pt x) (pt (if j + 0 < (bnd pt od).length then (bnd pt od).getD (j + 0) 0 else m))
      rw [if_pos (show j + 0 < (bnd pt od).length from hj), show j + 0 = j from rfl, ej]
      rcases last x mx with e | e
      · exact Or.inl e.symm
      · exact Or.inr e) ((bnd pt od).length - j) (by
      show ¬ ((if j + ((bnd pt od).length - j) < (bnd pt od).length then (bnd pt od).getD (j + ((bnd pt od).length - j)) 0 else m) = x ∨ lex (pt x) (pt (if j + ((bnd pt od).length - j) < (bnd pt od).length then (bnd pt od).getD (j + ((bnd pt od).length - j)) 0 else m)))
      rw [if_neg (by omega)]
      rintro (e | e)
      · rw [e] at hmx; exact lex_ir hmx
      · exact lex_asym e hmx)
    have k1 : (if j + k < (bnd pt od).length then (bnd pt od).getD (j + k) 0 else m) = x ∨ lex (pt x) (pt (if j + k < (bnd pt od).length then (bnd pt od).getD (j + k) 0 else m)) := k1
    have k2 : ¬ ((if j + (k + 1) < (bnd pt od).length then (bnd pt od).getD (j + (k + 1)) 0 else m) = x ∨ lex (pt x) (pt (if j + (k + 1) < (bnd pt od).length then (bnd pt od).getD (j + (k + 1)) 0 else m))) := k2
    rw [if_pos (show j + k < (bnd pt od).length by omega)] at k1
    have mi := hsub _ (getD_mem (show j + k < (bnd pt od).length by omega))
    have hm' : m ∈ od := by rw [← h0]; exact hsub _ (getD_mem hpos)
    obtain ⟨q, mq, hN, k2, hq⟩ : ∃ q, q ∈ od ∧ Nx pt (fun r => r ∈ od) ((bnd pt od).getD (j + k) 0) q ∧ ¬ (q = x ∨ lex (pt x) (pt q)) ∧ ((j + k + 1 < (bnd pt od).length ∧ q = (bnd pt od).getD (j + k + 1) 0) ∨ (j + k + 1 = (bnd pt od).length ∧ q = m)) := by
      by_cases c : j + (k + 1) < (bnd pt od).length
      · rw [if_pos c] at k2
        exact ⟨_, hsub _ (getD_mem c), hn1 (j + k) (by omega), k2, Or.inl ⟨by omega, rfl⟩⟩
      · rw [if_neg c] at k2
        exact ⟨m, hm', hn2 (j + k) (by omega), k2, Or.inr ⟨by omega, rfl⟩⟩
    generalize hpp : (bnd pt od).getD (j + k) 0 = p at k1 mi hN
    have hqx : lex (pt q) (pt x) := by
      rcases od_cmp hp mq mx with e | e | e
      · exact absurd (Or.inl e) k2
      · exact e
      · exact absurd (Or.inr e) k2
    have epx : p = x := by
      rcases k1 with e | e
      · exact e
      · exfalso
        have c1 := hN.2.2 x mx (Or.inr ⟨hqx, e⟩)
        have c2 := h.2.1 p mi
        have c3 := h.2.1 q mq
        have e2 : ori (pt x) (pt y) (pt p) = crs (vec (pt x) (pt p)) (vec (pt y) (pt x)) := by unfold ori crs vec; grind
        have e3 : ori (pt x) (pt y) (pt q) = crs (vec (pt y) (pt x)) (vec (pt q) (pt x)) := by unfold ori crs vec; grind
        rw [e2] at c2
        rw [e3] at c3
        have c4 := hp_tr (lpos_vec e) (lpos_vec hl) (lpos_vec hqx) c2 c3
        have e4 : crs (vec (pt x) (pt p)) (vec (pt q) (pt x)) = - ori (pt p) (pt q) (pt x) := by unfold ori crs vec; grind
        omega
    subst epx
    have eqy : q = y := nx_uniq hp hnf mx mq my hN h
    rcases hq with ⟨c1, c2⟩ | ⟨c1, c2⟩
    · refine ⟨j + k + 1, c1, by rw [← c2, eqy], ?_⟩
      unfold prevB
      rw [if_neg (by omega), show j + k + 1 - 1 = j + k by omega, hpp]
    · refine ⟨0, hpos, by rw [h0, ← c2, eqy], ?_⟩
      unfold prevB
      rw [if_pos rfl, show (bnd pt od).length - 1 = j + k by omega, hpp]
theorem bnd_3 {m : Nat} (hm : od.head? = some m) (hp : od.Pairwise (fun a b => lex (pt a) (pt b))) (hnf : ¬ flatL pt od) : 3 ≤ (bnd pt od).length := by
  obtain ⟨-, -, hsub, hpos, h0, -, hn1, hn2⟩ := bnd_ok hm hp hnf
  rcases Nat.lt_or_ge (bnd pt od).length 3 with q | q
  · exfalso
    by_cases q1 : (bnd pt od).length = 1
    · have := hn2 0 (by omega)
      rw [h0] at this
      rcases this.1 with k | k <;> exact lex_ir k
    · have a1 := hn1 0 (by omega)
      have a2 := hn2 1 (by omega)
      rw [h0] at a1
      have a1 : Nx pt (fun r => r ∈ od) m ((bnd pt od).getD 1 0) := a1
      refine hnf (line_flat a1.1 (fun r hr => ?_))
      have b1 : 0 ≤ ori (pt m) (pt ((bnd pt od).getD 1 0)) (pt r) := a1.2.1 r hr
      have b2 := a2.2.1 r hr
      rw [ori_swap] at b2
      omega
  · exact q
end N
