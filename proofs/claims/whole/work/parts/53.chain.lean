/-! A chain keeps all sites on its left. -/
def vec (a b : Int × Int) : Int × Int := (b.1 - a.1, b.2 - a.2)
theorem lpos_vec {a b : Int × Int} (h : lex a b) : lpos (vec a b) := by
  unfold lex at h
  unfold lpos vec
  dsimp only
  omega
theorem ori_c1 (a b c : Int × Int) : ori a b c = crs (vec a b) (vec a c) := by unfold ori crs vec; rfl
theorem ori_c2 (a b c : Int × Int) : ori a b c = crs (vec a b) (vec b c) := by unfold ori crs vec; grind
theorem ori_c3 (a b c : Int × Int) : ori a b c = crs (vec c b) (vec a b) := by unfold ori crs vec; grind
theorem ori_c4 (b s r : Int × Int) : ori b s r = crs (vec r b) (vec b s) := by unfold ori crs vec; grind
/-- an edge of the chain: all known sites on its left, none between its ends -/
def EdgeOK (pt : Nat → Int × Int) (pr : Nat → Prop) (a b : Nat) : Prop := lex (pt a) (pt b) ∧ (∀ r, pr r → 0 ≤ ori (pt a) (pt b) (pt r)) ∧ (∀ r, pr r → lex (pt a) (pt r) → lex (pt r) (pt b) → 0 < ori (pt a) (pt b) (pt r))
def ChainOK (pt : Nat → Int × Int) (pr : Nat → Prop) : List Nat → Prop
  | b :: a :: R => EdgeOK pt pr a b ∧ ChainOK pt pr (a :: R)
  | _ => True
def Bot (m : Nat) : List Nat → Prop
  | [] => False
  | [b] => b = m
  | _ :: a :: R => Bot m (a :: R)
section C
variable {pt : Nat → Int × Int} {pr : Nat → Prop} {s m : Nat}
theorem deep (hs : ∀ r, pr r → lex (pt r) (pt s)) : ∀ (R : List Nat) (a b : Nat), ChainOK pt pr (b :: a :: R) → (∀ x ∈ b :: a :: R, pr x) → 0 ≤ ori (pt a) (pt b) (pt s) → ChainOK pt (fun r => pr r ∨ r = s) (b :: a :: R) := by
  intro R
  induction R with
  | nil =>
    intro a b h hp h0
    refine ⟨⟨h.1.1, ?_, ?_⟩, trivial⟩
    · rintro r (hr | rfl)
      · exact h.1.2.1 r hr
      · exact h0
    · rintro r (hr | rfl) k1 k2
      · exact h.1.2.2 r hr k1 k2
      · exact absurd (hs b (hp b (by simp))) (lex_asym k2)
  | cons x R ih =>
    intro a b h hp h0
    refine ⟨⟨h.1.1, ?_, ?_⟩, ?_⟩
    · rintro r (hr | rfl)
      · exact h.1.2.1 r hr
      · exact h0
    · rintro r (hr | rfl) k1 k2
      · exact h.1.2.2 r hr k1 k2
      · exact absurd (hs b (hp b (by simp))) (lex_asym k2)
    · refine ih x a h.2 (fun y hy => hp y (List.mem_cons_of_mem _ hy)) ?_
      have hxab := h.2.1.2.1 b (hp b (by simp))
      rw [ori_c2] at hxab
      rw [ori_c2]
      refine hp_tr (lpos_vec h.2.1.1) (lpos_vec h.1.1) (lpos_vec (hs a (hp a (by simp)))) hxab ?_
      rw [← ori_c1]
      exact h0
theorem pop_ok (hs : ∀ r, pr r → lex (pt r) (pt s)) (hm : ∀ r, pr r → r = m ∨ lex (pt m) (pt r)) (htri : ∀ r q, pr r → pr q → r = q ∨ lex (pt r) (pt q) ∨ lex (pt q) (pt r)) : ∀ (R : List Nat) (b : Nat), ChainOK pt pr (b :: R) → (∀ x ∈ b :: R, pr x) → Bot m (b :: R) → (∀ r, pr r → lex (pt b) (pt r) → 0 < ori (pt b) (pt s) (pt r)) →
    ∃ c P, popR pt (b :: R) s = c :: P ∧ ChainOK pt (fun r => pr r ∨ r = s) (s :: c :: P) ∧ Bot m (c :: P) ∧ (∀ x ∈ c :: P, pr x) := by
  intro R
  induction R with
  | nil =>
    intro b _ hp hb hH
    refine ⟨b, [], rfl, ⟨⟨hs b (hp b (by simp)), ?_, ?_⟩, trivial⟩, hb, hp⟩
    · rintro r (hr | rfl)
      · rcases hm r hr with e | k
        · rw [e, ← (show b = m from hb), ori_aba]; exact Int.le_refl 0
        · exact Int.le_of_lt (hH r hr (by rw [show b = m from hb]; exact k))
      · rw [ori_abb]; exact Int.le_refl 0
    · rintro r (hr | rfl) k1 k2
      · exact hH r hr k1
      · exact absurd k2 lex_ir
  | cons a R ih =>
    intro b h hp hb hH
    have pb := hp b (by simp)
    have pa := hp a (by simp)
    rw [popR]
    by_cases hl : ori (pt a) (pt b) (pt s) < 0
    · rw [if_pos hl]
      refine ih a h.2 (fun y hy => hp y (List.mem_cons_of_mem _ hy)) hb (fun r hr k => ?_)
      rw [ori_c1]
      refine hp_tr1 (v := vec (pt a) (pt b)) (lpos_vec (hs a pa)) (lpos_vec h.1.1) (lpos_vec k) ?_ ?_
      · rw [← ori_c1, ori_sw2]; omega
      · rw [← ori_c1]; exact h.1.2.1 r hr
    · rw [if_neg hl]
      refine ⟨b, a :: R, rfl, ⟨⟨hs b pb, ?_, ?_⟩, deep hs R a b h hp (by omega)⟩, hb, hp⟩
      · rintro r (hr | rfl)
        · rcases htri r b hr pb with e | k | k
          · rw [e, ori_aba]; exact Int.le_refl 0
          · rw [ori_c4]
            refine hp_tr (v := vec (pt a) (pt b)) (lpos_vec k) (lpos_vec h.1.1) (lpos_vec (hs b pb)) ?_ ?_
            · rw [← ori_c3]; exact h.1.2.1 r hr
            · rw [← ori_c2]; omega
          · exact Int.le_of_lt (hH r hr k)
        · rw [ori_abb]; exact Int.le_refl 0
      · rintro r (hr | rfl) k1 k2
        · exact hH r hr k1
        · exact absurd k2 lex_ir
end C
/-- pushing sites in order: the chain stays one, over all of them -/
theorem push_ok {pt : Nat → Int × Int} {m : Nat} : ∀ (l pre R : List Nat) (b : Nat), (pre ++ l).Pairwise (fun a b => lex (pt a) (pt b)) → (∀ x, x ∈ b :: R → x ∈ pre) → pre.head? = some m → pre.getLast? = some b → ChainOK pt (fun r => r ∈ pre) (b :: R) → Bot m (b :: R) →
    ∃ c P, pushAll pt (b :: R) l = c :: P ∧ ChainOK pt (fun r => r ∈ pre ++ l) (c :: P) ∧ Bot m (c :: P) ∧ (∀ x ∈ c :: P, x ∈ pre ++ l) ∧ (pre ++ l).getLast? = some c := by
  intro l
  induction l with
  | nil =>
    intro pre R b hp hsub hm hb hC hB
    rw [List.append_nil]
    exact ⟨b, R, rfl, hC, hB, hsub, hb⟩
  | cons s l ih =>
    intro pre R b hp hsub hm hb hC hB
    rw [List.pairwise_append] at hp
    obtain ⟨hp1, hp2, hp3⟩ := hp
    have hs : ∀ r, r ∈ pre → lex (pt r) (pt s) := fun r hr => hp3 r hr s (by simp)
    have hmin : ∀ r, r ∈ pre → r = m ∨ lex (pt m) (pt r) := by
      intro r hr
      cases pre with
      | nil => cases hr
      | cons q pre =>
        have : q = m := by simpa using hm
        subst this
        rcases List.mem_cons.mp hr with h | h
        · exact Or.inl h
        · exact Or.inr ((List.pairwise_cons.mp hp1).1 r h)
    have htri : ∀ r q, r ∈ pre → q ∈ pre → r = q ∨ lex (pt r) (pt q) ∨ lex (pt q) (pt r) := by
      intro r q hr hq
      obtain ⟨i, hi, rfl⟩ := List.mem_iff_getElem.mp hr
      obtain ⟨j, hj, rfl⟩ := List.mem_iff_getElem.mp hq
      rcases Nat.lt_trichotomy i j with h | h | h
      · exact Or.inr (Or.inl (List.pairwise_iff_getElem.mp hp1 i j hi hj h))
      · subst h; exact Or.inl rfl
      · exact Or.inr (Or.inr (List.pairwise_iff_getElem.mp hp1 j i hj hi h))
    have htop : ∀ r, r ∈ pre → lex (pt b) (pt r) → 0 < ori (pt b) (pt s) (pt r) := by
      intro r hr k
      exfalso
      obtain ⟨ys', e⟩ := List.getLast?_eq_some_iff.mp hb
      rw [e] at hr hp1
      rw [List.pairwise_append] at hp1
      rcases List.mem_append.mp hr with h | h
      · exact lex_asym k (hp1.2.2 r h b (by simp))
      · have : r = b := by simpa using h
        rw [this] at k
        exact lex_ir k
    obtain ⟨c, P, e, h1, h2, h3⟩ := pop_ok (pr := fun r => r ∈ pre) hs hmin htri R b hC hsub hB htop
    rw [pushAll, e]
    have hpe : pre ++ s :: l = (pre ++ [s]) ++ l := by simp
    rw [hpe]
    refine ih (pre ++ [s]) (c :: P) s ?_ ?_ ?_ ?_ ?_ ?_
    · rw [← hpe, List.pairwise_append]; exact ⟨hp1, hp2, hp3⟩
    · intro x hx
      rcases List.mem_cons.mp hx with rfl | hx
      · simp
      · exact List.mem_append_left _ (h3 x hx)
    · cases pre with
      | nil => cases hm
      | cons q pre => simpa using hm
    · simp
    · have : (fun r => r ∈ pre ++ [s]) = (fun r => r ∈ pre ∨ r = s) := by
        funext r
        simp
      rw [this]
      exact h1
    · exact h2
