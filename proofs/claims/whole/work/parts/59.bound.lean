/-! The way round has no site twice. -/
section B
variable {pt : Nat → Int × Int} {pr : Nat → Prop} {m : Nat}
theorem chain_lt : ∀ (R : List Nat) (b : Nat), ChainOK pt pr (b :: R) → ∀ x ∈ R, lex (pt x) (pt b) := by
  intro R
  induction R with
  | nil => intro b _ x hx; cases hx
  | cons a R ih =>
    intro b h x hx
    rcases List.mem_cons.mp hx with rfl | hx
    · exact h.1.1
    · exact lex_tr (ih a h.2 x hx) h.1.1
theorem chain_nodup : ∀ (R : List Nat), ChainOK pt pr R → R.Nodup := by
  intro R
  induction R with
  | nil => intro _; exact List.nodup_nil
  | cons b R ih =>
    intro h
    refine List.nodup_cons.mpr ⟨fun hb => lex_ir (chain_lt R b h b hb), ?_⟩
    cases R with
    | nil => exact List.nodup_nil
    | cons a R => exact ih h.2
theorem edge_above : ∀ (R : List Nat) (c x : Nat), ChainOK pt pr (c :: R) → x ∈ R → ∃ b, b ∈ c :: R ∧ EdgeOK pt pr x b := by
  intro R
  induction R with
  | nil => intro c x _ hx; cases hx
  | cons a R ih =>
    intro c x h hx
    rcases List.mem_cons.mp hx with rfl | hx
    · exact ⟨c, by simp, h.1⟩
    · obtain ⟨b, hb, he⟩ := ih a x h.2 hx
      exact ⟨b, List.mem_cons_of_mem _ hb, he⟩
theorem edge_below : ∀ (R : List Nat) (x : Nat), ChainOK pt pr R → Bot m R → x ∈ R → x ≠ m → ∃ a, a ∈ R ∧ EdgeOK pt pr a x := by
  intro R
  induction R with
  | nil => intro x _ _ hx; cases hx
  | cons b R ih =>
    intro x h hB hx hne
    cases R with
    | nil =>
      have e : x = b := by simpa using hx
      exact absurd (e.trans hB) hne
    | cons a R =>
      rcases List.mem_cons.mp hx with rfl | hx
      · exact ⟨a, by simp, h.1⟩
      · obtain ⟨q, hq, he⟩ := ih x h.2 hB hx hne
        exact ⟨q, List.mem_cons_of_mem _ hq, he⟩
theorem Bot_get : ∀ (R : List Nat), Bot m R → R.reverse.getD 0 0 = m := by
  intro R
  induction R with
  | nil => intro h; exact absurd h id
  | cons b R ih =>
    intro h
    cases R with
    | nil => exact h
    | cons a R =>
      rw [rev_get, if_pos (by rw [List.length_cons]; omega)]
      exact ih h
theorem Bot_app {P : List Nat} (h : Bot m P) : ∀ V : List Nat, Bot m (V ++ P) := by
  intro V
  induction V with
  | nil => exact h
  | cons b V ih => exact bot_cons ih
end B
/-- all sites on the line of two of them -/
theorem line_flat {pt : Nat → Int × Int} {od : List Nat} {a b : Nat} (hab : lex (pt a) (pt b) ∨ lex (pt b) (pt a)) (h : ∀ r ∈ od, ori (pt a) (pt b) (pt r) = 0) : flatL pt od := by
  have hu : 0 < dtt (vec (pt a) (pt b)) (vec (pt a) (pt b)) := by
    rcases hab with k | k
    · exact dtt_pos (lpos_vec k)
    · have := dtt_pos (lpos_vec k)
      have e2 : dtt (vec (pt b) (pt a)) (vec (pt b) (pt a)) = dtt (vec (pt a) (pt b)) (vec (pt a) (pt b)) := by unfold dtt vec; grind
      omega
  intro k k2 hk
  have sub : ∀ x ∈ od, ∀ y ∈ od, crs (vec (pt a) (pt b)) (vec (pt x) (pt y)) = 0 := by
    intro x hx y hy
    have e : crs (vec (pt a) (pt b)) (vec (pt x) (pt y)) = crs (vec (pt a) (pt b)) (vec (pt a) (pt y)) - crs (vec (pt a) (pt b)) (vec (pt a) (pt x)) := by unfold crs vec; grind
    rw [e, ← ori_c1, ← ori_c1, h x hx, h y hy]; rfl
  have m0 : od.getD 0 0 ∈ od := getD_mem (by omega)
  have m1 : od.getD 1 0 ∈ od := getD_mem (by omega)
  have mk : od.getD k 0 ∈ od := getD_mem hk
  rw [ori_c1]
  exact crs_two hu (sub _ m0 _ m1) (sub _ m0 _ mk)
/-- the boundary of sites that are not on one line -/
def bnd (pt : Nat → Int × Int) (od : List Nat) : List Nat := (chain pt od).tail.reverse
theorem bnd_ok {pt : Nat → Int × Int} {od : List Nat} {m : Nat} (hm : od.head? = some m) (hp : od.Pairwise (fun a b => lex (pt a) (pt b))) (hnf : ¬ flatL pt od) :
    (chain pt od).length = (bnd pt od).length + 1 ∧ (bnd pt od).Nodup ∧ (∀ x ∈ bnd pt od, x ∈ od) ∧ 0 < (bnd pt od).length ∧ (bnd pt od).getD 0 0 = m ∧ (∀ k, k < (bnd pt od).length → (chain pt od).reverse.getD k 0 = (bnd pt od).getD k 0) ∧
    (∀ i, i + 1 < (bnd pt od).length → Nx pt (fun r => r ∈ od) ((bnd pt od).getD i 0) ((bnd pt od).getD (i + 1) 0)) ∧ (∀ i, i + 1 = (bnd pt od).length → Nx pt (fun r => r ∈ od) ((bnd pt od).getD i 0) m) := by
  have hne : od ≠ [] := fun h => by rw [h] at hm; cases hm
  obtain ⟨L, hL⟩ : ∃ L, od.getLast? = some L := by
    cases hq : od.getLast? with
    | none => exact absurd (List.getLast?_eq_none_iff.mp hq) hne
    | some L => exact ⟨L, rfl⟩
  obtain ⟨P, U, -, hch, hU, hB1, hB2, hC1, hC2, hAdj, hM1, hM2⟩ := chain_ok hm hL hp
  have tri : ∀ x ∈ od, ∀ r ∈ od, r = x ∨ lex (pt r) (pt x) ∨ lex (pt x) (pt r) := by
    intro x hx r hr
    obtain ⟨i, hi, rfl⟩ := List.mem_iff_getElem.mp hr
    obtain ⟨j, hj, rfl⟩ := List.mem_iff_getElem.mp hx
    rcases Nat.lt_trichotomy i j with h | h | h
    · exact Or.inr (Or.inl (List.pairwise_iff_getElem.mp hp i j hi hj h))
    · subst h; exact Or.inl rfl
    · exact Or.inr (Or.inr (List.pairwise_iff_getElem.mp hp j i hj hi h))
  -- more than one site
  have hmL : m ≠ L := by
    intro e
    apply hnf
    intro k k2 hk
    exfalso
    cases od with
    | nil => cases hm
    | cons q rest =>
      have e1 : q = m := by simpa using hm
      obtain ⟨zs, e2⟩ := List.getLast?_eq_some_iff.mp hL
      cases zs with
      | nil =>
        have e3 : (q :: rest).length = 1 := by rw [e2]; rfl
        omega
      | cons z zs =>
        rw [e2] at hp
        have e4 : z = q := by
          have := congrArg List.head? e2
          simpa using this.symm
        have := (List.pairwise_append.mp hp).2.2 z (by simp) L (by simp)
        rw [e4, e1, e] at this
        exact lex_ir this
  cases U with
  | nil => cases hU
  | cons d V =>
    have hd : d = m := by simpa using hU
    subst hd
    have hP : Bot d P := by
      cases P with
      | nil => exact absurd (show L = d from hB1).symm hmL
      | cons c P => exact hB1
    have ht : (chain pt od).tail = V ++ P := by rw [hch]; rfl
    have hch2 : chain pt od = d :: (V ++ P) := by rw [hch]; rfl
    have hVm : ∀ x ∈ V, x ≠ d := fun x hx e => by
      have := chain_lt V d hC2 x hx
      rw [e] at this
      exact lex_ir this
    have hcross : ∀ x ∈ V, x ∉ P := by
      intro x hx hxP
      apply hnf
      have hxd := hVm x hx
      obtain ⟨b, hb1, hb2⟩ := edge_above P L x hC1 hxP
      obtain ⟨a, ha1, ha2⟩ := edge_below (m := d) (L :: P) x hC1 hB1 (List.mem_cons_of_mem _ hxP) hxd
      obtain ⟨g, hg1, hg2⟩ := edge_above V d x hC2 hx
      have hxo := hM2 x (List.mem_cons_of_mem _ hx)
      exact line_flat (Or.inl ha2.1) (both_flat (pr := fun r => r ∈ od) hxo (hM1 a ha1) (hM1 b hb1) (hM2 g hg1) ha2 hb2 hg2 (fun r hr => tri x hxo r hr))
    have hnd : (V ++ P).Nodup := by
      have n1 := chain_nodup (d :: V) hC2
      have n2 := chain_nodup (L :: P) hC1
      rw [List.nodup_append]
      exact ⟨(List.nodup_cons.mp n1).2, (List.nodup_cons.mp n2).2, fun x hx y hy e => hcross x hx (e ▸ hy)⟩
    have hbn : bnd pt od = (V ++ P).reverse := by unfold bnd; rw [ht]
    have hlen : (bnd pt od).length = (V ++ P).length := by rw [hbn, List.length_reverse]
    have hpos : 0 < (V ++ P).length := by
      cases P with
      | nil => exact absurd hP id
      | cons c P => simp; omega
    have hget : ∀ k, k < (V ++ P).length → (chain pt od).reverse.getD k 0 = (V ++ P).reverse.getD k 0 := fun k hk => by
      rw [hch2, rev_get, if_pos hk]
    have hlast : (chain pt od).reverse.getD (V ++ P).length 0 = d := by
      rw [hch2, rev_get, if_neg (Nat.lt_irrefl _), if_pos rfl]
    have hclen : (chain pt od).length = (V ++ P).length + 1 := by rw [hch2, List.length_cons]
    refine ⟨by rw [hlen]; exact hclen, ?_, ?_, by rw [hlen]; exact hpos, ?_, ?_, ?_, ?_⟩
    · rw [hbn]; exact (by unfold List.Nodup at hnd ⊢; rw [List.pairwise_reverse]; exact List.Pairwise.imp (fun h e => h e.symm) hnd)
    · intro x hx
      rw [hbn, List.mem_reverse] at hx
      rcases List.mem_append.mp hx with h | h
      · exact hM2 x (List.mem_cons_of_mem _ h)
      · exact hM1 x (List.mem_cons_of_mem _ h)
    · rw [hbn]; exact Bot_get _ (Bot_app hP V)
    · intro k hk
      rw [hlen] at hk
      rw [hbn]; exact hget k hk
    · intro i hi
      rw [hlen] at hi
      have := Adj_get hAdj i (by omega)
      rw [hget i (by omega), hget (i + 1) hi] at this
      rw [hbn]; exact this
    · intro i hi
      rw [hlen] at hi
      have := Adj_get hAdj i (by omega)
      rw [hget i (by omega), hi, hlast] at this
      rw [hbn]; exact this
