/-! How many triangles and edges there can be. -/
def gcode (pt : Nat → Int × Int) (B : List Nat) (i : Nat) : Nat := if i = 0 then 2 * B.getD 0 0 + 1 else if lexb (pt (B.getD (i - 1) 0)) (pt (B.getD i 0)) then 2 * B.getD i 0 + 1 else 2 * B.getD i 0
theorem gcode_half (pt : Nat → Int × Int) (B : List Nat) (i : Nat) : gcode pt B i / 2 = B.getD i 0 := by
  unfold gcode
  by_cases q : i = 0
  · rw [if_pos q, q]; omega
  · rw [if_neg q]
    split <;> omega
theorem fm_len : ∀ l : List Nat, (l.flatMap (fun i => [2 * i, 2 * i + 1])).length = 2 * l.length := by
  intro l
  induction l with
  | nil => rfl
  | cons a l ih =>
    rw [List.flatMap_cons, List.length_append, ih, List.length_cons]
    show 2 + 2 * l.length = 2 * (l.length + 1)
    omega
theorem code_cases {S : Nat → Prop} {pt : Nat → Int × Int} {t : Nat × Nat × Nat} (h : isT S pt t.1 t.2.1 t.2.2) : (tcode pt t = 2 * t.2.1 ∧ lex (pt t.1) (pt t.2.1) ∧ lex (pt t.2.1) (pt t.2.2)) ∨ (tcode pt t = 2 * t.2.2 + 1 ∧ lex (pt t.1) (pt t.2.2) ∧ lex (pt t.2.2) (pt t.2.1)) := by
  unfold tcode
  cases k : lexb (pt t.2.1) (pt t.2.2)
  · refine Or.inr ⟨rfl, h.2.2.2.2.2.1, ?_⟩
    rcases Classical.em (lex (pt t.2.2) (pt t.2.1)) with q | q
    · exact q
    · exfalso
      have e := lex_tri (lexb_f k) q
      have o := h.2.2.2.1
      rw [e, ori_abb] at o
      omega
  · exact Or.inl ⟨rfl, h.2.2.2.2.1, lexb_iff.mp k⟩
section C
variable {S : Nat → Prop} {pt : Nat → Int × Int} {od : List Nat}
theorem unhit_up {p v a b : Nat} (hN : Nx pt (fun r => r ∈ od) p v) (hl : lex (pt p) (pt v)) (ha : a ∈ od) (hb : b ∈ od) (l1 : lex (pt a) (pt v)) (l2 : lex (pt v) (pt b)) : ori (pt a) (pt b) (pt v) ≤ 0 := by
  have c1 := hN.2.1 a ha
  have c2 := hN.2.1 b hb
  rw [ori_c3] at c1
  rw [ori_c2] at c2
  have c3 := hp_tr (lpos_vec l1) (lpos_vec hl) (lpos_vec l2) c1 c2
  rw [← ori_c2, ori_sw2] at c3
  omega
theorem unhit_dn {p v a c : Nat} (hN : Nx pt (fun r => r ∈ od) p v) (hl : lex (pt v) (pt p)) (ha : a ∈ od) (hc : c ∈ od) (l1 : lex (pt a) (pt v)) (l2 : lex (pt v) (pt c)) : ori (pt a) (pt v) (pt c) ≤ 0 := by
  have c1 := hN.2.1 a ha
  have c2 := hN.2.1 c hc
  have e1 : ori (pt p) (pt v) (pt a) = crs (vec (pt v) (pt p)) (vec (pt a) (pt v)) := by unfold ori crs vec; grind
  have e2 : ori (pt p) (pt v) (pt c) = crs (vec (pt v) (pt c)) (vec (pt v) (pt p)) := by unfold ori crs vec; grind
  rw [e1] at c1
  rw [e2] at c2
  have c3 := hp_tr (lpos_vec l2) (lpos_vec hl) (lpos_vec l1) c2 c1
  have e3 : crs (vec (pt v) (pt c)) (vec (pt a) (pt v)) = - ori (pt a) (pt v) (pt c) := by unfold ori crs vec; grind
  omega
theorem tl_bound {m : Nat} (hd : ∀ i j, S i → S j → pt i = pt j → i = j) (h20 : ∀ i, S i → i < 20) (hS : ∀ i, S i ↔ i ∈ od) (hm : od.head? = some m) (hp : od.Pairwise (fun a b => lex (pt a) (pt b))) (hnf : ¬ flatL pt od) : (TL S pt).length + (bnd pt od).length + 2 ≤ 2 * od.length := by
  obtain ⟨-, hBnd, hsub, hpos, h0, -, hn1, hn2⟩ := bnd_ok hm hp hnf
  have hm' : m ∈ od := by rw [← h0]; exact hsub _ (getD_mem hpos)
  obtain ⟨L, hL⟩ : ∃ L, od.getLast? = some L := by
    cases hq : od.getLast? with
    | none => rw [List.getLast?_eq_none_iff.mp hq] at hm'; cases hm'
    | some L => exact ⟨L, rfl⟩
  have hL' : L ∈ od := hsub _ (bnd_last hm hL hp hnf)
  have first : ∀ r ∈ od, ¬ lex (pt r) (pt m) := by
    intro r hr
    cases od with
    | nil => cases hr
    | cons q rest =>
      have e : q = m := by simpa using hm
      rcases List.mem_cons.mp hr with k | k
      · rw [k, e]; exact lex_ir
      · rw [← e]; exact lex_asym ((List.pairwise_cons.mp hp).1 r k)
  have last : ∀ r ∈ od, r = L ∨ lex (pt r) (pt L) := by
    intro r hr
    obtain ⟨zs, e⟩ := List.getLast?_eq_some_iff.mp hL
    rw [e] at hr hp
    rcases List.mem_append.mp hr with k | k
    · exact Or.inr ((List.pairwise_append.mp hp).2.2 r k L (by simp))
    · exact Or.inl (by simpa using k)
  have last' : ∀ r ∈ od, ¬ lex (pt L) (pt r) := by
    intro r hr
    rcases last r hr with e | e
    · rw [e]; exact lex_ir
    · exact lex_asym e
  have hTT : ∀ t ∈ TL S pt, isT S pt t.1 t.2.1 t.2.2 := fun t ht => (TL_mem h20).mp ht
  have hmL : m ≠ L := by
    intro e
    have a1 := hn1 0 (by have := bnd_3 hm hp hnf; omega)
    rw [h0] at a1
    have mb := hsub _ (getD_mem (show 1 < (bnd pt od).length by have := bnd_3 hm hp hnf; omega))
    rcases a1.1 with k | k
    · rw [e] at k; exact last' _ mb k
    · exact first _ mb k
  have n1 : ((TL S pt).map (tcode pt)).Nodup := by
    have hn : (TL S pt).Nodup := List.Pairwise.imp (fun h e => by rw [e] at h; exact Nat.lt_irrefl _ h) (TL_lt S pt)
    unfold List.Nodup at hn ⊢
    rw [List.pairwise_map]
    refine List.Pairwise.imp_of_mem ?_ hn
    intro a b ha hb hne e
    exact hne (tri_code hd (hTT a ha) (hTT b hb) e)
  have n2 : ((List.range (bnd pt od).length).map (gcode pt (bnd pt od))).Nodup := by
    unfold List.Nodup
    rw [List.pairwise_map]
    refine List.Pairwise.imp_of_mem ?_ List.nodup_range
    intro a b ha hb hne e
    have k : gcode pt (bnd pt od) a / 2 = gcode pt (bnd pt od) b / 2 := congrArg (fun z => z / 2) e
    rw [gcode_half, gcode_half] at k
    exact nd_ne hBnd hne (List.mem_range.mp ha) (List.mem_range.mp hb) k
  have n3 : [2 * m, 2 * L].Nodup := by
    rw [List.nodup_cons]
    refine ⟨fun q => ?_, by simp⟩
    have : 2 * m = 2 * L := by simpa using q
    omega
  -- what no triangle has for a code
  have u1 : ∀ t ∈ TL S pt, tcode pt t ≠ 2 * m ∧ tcode pt t ≠ 2 * m + 1 ∧ tcode pt t ≠ 2 * L := by
    intro t ht
    have k := hTT t ht
    have ma := (hS _).mp k.1
    have mb := (hS _).mp k.2.1
    have mc := (hS _).mp k.2.2.1
    rcases code_cases k with ⟨e, l1, l2⟩ | ⟨e, l1, l2⟩
    · rw [e]
      refine ⟨fun q => ?_, by omega, fun q => ?_⟩
      · rw [show t.2.1 = m by omega] at l1; exact first _ ma l1
      · rw [show t.2.1 = L by omega] at l2; exact last' _ mc l2
    · rw [e]
      refine ⟨by omega, fun q => ?_, by omega⟩
      rw [show t.2.2 = m by omega] at l1; exact first _ ma l1
  have u2 : ∀ t ∈ TL S pt, ∀ i, i < (bnd pt od).length → tcode pt t ≠ gcode pt (bnd pt od) i := by
    intro t ht i hi e
    have k := hTT t ht
    have ma := (hS _).mp k.1
    have mb := (hS _).mp k.2.1
    have mc := (hS _).mp k.2.2.1
    unfold gcode at e
    by_cases q : i = 0
    · rw [if_pos q, h0] at e
      exact (u1 t ht).2.1 e
    · rw [if_neg q] at e
      have hN := hn1 (i - 1) (by omega)
      rw [show i - 1 + 1 = i by omega] at hN
      generalize (bnd pt od).getD i 0 = v at e hN
      generalize (bnd pt od).getD (i - 1) 0 = p at e hN
      have o := k.2.2.2.1
      cases hl : lexb (pt p) (pt v)
      · rw [hl] at e
        have hvp : lex (pt v) (pt p) := hN.1.resolve_left (lexb_f hl)
        have e' : tcode pt t = 2 * v := e
        rcases code_cases k with ⟨e2, l1, l2⟩ | ⟨e2, l1, l2⟩
        · have ev : t.2.1 = v := by omega
          rw [ev] at l1 l2 o
          have := unhit_dn hN hvp ma mc l1 l2
          omega
        · omega
      · rw [hl] at e
        have e' : tcode pt t = 2 * v + 1 := e
        rcases code_cases k with ⟨e2, l1, l2⟩ | ⟨e2, l1, l2⟩
        · omega
        · have ev : t.2.2 = v := by omega
          rw [ev] at l1 l2 o
          have := unhit_up hN (lexb_iff.mp hl) ma mb l1 l2
          omega
  have u3 : ∀ i, i < (bnd pt od).length → gcode pt (bnd pt od) i ≠ 2 * m ∧ gcode pt (bnd pt od) i ≠ 2 * L := by
    intro i hi
    unfold gcode
    by_cases q : i = 0
    · rw [if_pos q]
      exact ⟨by omega, by omega⟩
    · rw [if_neg q]
      have hv : (bnd pt od).getD i 0 ≠ m := by
        intro e
        rw [← h0] at e
        exact nd_ne hBnd q hi hpos e
      refine ⟨?_, fun e => ?_⟩
      · split <;> omega
      · by_cases hl : lexb (pt ((bnd pt od).getD (i - 1) 0)) (pt ((bnd pt od).getD i 0)) = true
        · rw [if_pos hl] at e; omega
        · rw [if_neg hl] at e
          have ev : (bnd pt od).getD i 0 = L := by omega
          have mp := hsub _ (getD_mem (show i - 1 < (bnd pt od).length by omega))
          rcases last _ mp with k | k
          · exact nd_ne hBnd (show i - 1 ≠ i by omega) (by omega) hi (k.trans ev.symm)
          · rw [← ev] at k
            exact hl (lexb_iff.mpr k)
  have hall : ((TL S pt).map (tcode pt) ++ ((List.range (bnd pt od).length).map (gcode pt (bnd pt od)) ++ [2 * m, 2 * L])).Nodup := by
    rw [List.nodup_append, List.nodup_append]
    refine ⟨n1, ⟨n2, n3, ?_⟩, ?_⟩
    · intro x hx y hy e
      obtain ⟨i, hi, rfl⟩ := List.mem_map.mp hx
      have := u3 i (List.mem_range.mp hi)
      rcases List.mem_cons.mp hy with k | k
      · exact this.1 (e.trans k)
      · exact this.2 (e.trans (by simpa using k))
    · intro x hx y hy e
      obtain ⟨t, ht, rfl⟩ := List.mem_map.mp hx
      rcases List.mem_append.mp hy with k | k
      · obtain ⟨i, hi, e2⟩ := List.mem_map.mp k
        exact u2 t ht i (List.mem_range.mp hi) (e.trans e2.symm)
      · rcases List.mem_cons.mp k with k | k
        · exact (u1 t ht).1 (e.trans k)
        · exact (u1 t ht).2.2 (e.trans (by simpa using k))
  have hsubs : ∀ x ∈ (TL S pt).map (tcode pt) ++ ((List.range (bnd pt od).length).map (gcode pt (bnd pt od)) ++ [2 * m, 2 * L]), x ∈ od.flatMap (fun i => [2 * i, 2 * i + 1]) := by
    have mk : ∀ v, v ∈ od → ∀ x, (x = 2 * v ∨ x = 2 * v + 1) → x ∈ od.flatMap (fun i => [2 * i, 2 * i + 1]) := fun v hv x hx => List.mem_flatMap.mpr ⟨v, hv, by
      rcases hx with e | e
      · rw [e]; simp
      · rw [e]; simp⟩
    intro x hx
    rcases List.mem_append.mp hx with k | k
    · obtain ⟨t, ht, rfl⟩ := List.mem_map.mp k
      have k := hTT t ht
      rcases code_cases k with ⟨e, -, -⟩ | ⟨e, -, -⟩
      · exact mk _ ((hS _).mp k.2.1) _ (Or.inl e)
      · exact mk _ ((hS _).mp k.2.2.1) _ (Or.inr e)
    · rcases List.mem_append.mp k with k | k
      · obtain ⟨i, hi, rfl⟩ := List.mem_map.mp k
        have hg := gcode_half pt (bnd pt od) i
        exact mk _ (hsub _ (getD_mem (List.mem_range.mp hi))) _ (by omega)
      · rcases List.mem_cons.mp k with k | k
        · exact mk m hm' _ (Or.inl k)
        · exact mk L hL' _ (Or.inl (by simpa using k))
  have := List.Nodup.length_le_of_subset hall hsubs
  rw [fm_len, List.length_append, List.length_append, List.length_map, List.length_map, List.length_range] at this
  have e2 : [2 * m, 2 * L].length = 2 := rfl
  omega
end C
/-- pairs that are edges of triangles, or the boundary's edges backwards -/
theorem edges_bound {T : List (Nat × Nat × Nat)} {B : List Nat} (D : List (Nat × Nat)) (hD : D.Nodup) (h : ∀ p ∈ D, (∃ t ∈ T, p = (t.1, t.2.1) ∨ p = (t.2.1, t.2.2) ∨ p = (t.2.2, t.1)) ∨ BE B p.2 p.1) : D.length ≤ 3 * T.length + B.length := by
  have hs : ∀ p ∈ D, p ∈ T.flatMap (fun t => [(t.1, t.2.1), (t.2.1, t.2.2), (t.2.2, t.1)]) ++ (List.range B.length).map (fun i => (B.getD i 0, prevB B i)) := by
    intro p hp
    rcases h p hp with ⟨t, ht, k⟩ | ⟨i, hi, e1, e2⟩
    · refine List.mem_append_left _ (List.mem_flatMap.mpr ⟨t, ht, ?_⟩)
      rcases k with k | k | k
      · rw [k]; simp
      · rw [k]; simp
      · rw [k]; simp
    · refine List.mem_append_right _ (List.mem_map.mpr ⟨i, List.mem_range.mpr hi, ?_⟩)
      exact Prod.ext e1.symm e2.symm
  have := List.Nodup.length_le_of_subset hD hs
  rw [List.length_append, List.length_map, List.length_range] at this
  have e : ∀ l : List (Nat × Nat × Nat), (l.flatMap (fun t => [(t.1, t.2.1), (t.2.1, t.2.2), (t.2.2, t.1)])).length = 3 * l.length := by
    intro l
    induction l with
    | nil => rfl
    | cons a l ih =>
      rw [List.flatMap_cons, List.length_append, ih, List.length_cons]
      show 3 + 3 * l.length = 3 * (l.length + 1)
      omega
  rw [e] at this
  exact this
