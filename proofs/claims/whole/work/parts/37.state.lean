/-! What a state of the sites is; insert, remove and move, class and reference alike. -/
theorem ins_getD (od : List Nat) (q slot k : Nat) (hq : q ≤ od.length) : (od.take q ++ slot :: od.drop q).getD k 0 = if k < q then od.getD k 0 else if k = q then slot else od.getD (k - 1) 0 := by
  have hl : (od.take q).length = q := by rw [List.length_take]; omega
  simp only [List.getD_eq_getElem?_getD]
  rw [List.getElem?_append, hl]
  by_cases h1 : k < q
  · rw [if_pos h1, if_pos h1, List.getElem?_take, if_pos h1]
  · rw [if_neg h1, if_neg h1]
    by_cases h2 : k = q
    · subst h2
      rw [if_pos rfl, Nat.sub_self]
      rfl
    · rw [if_neg h2, show k - q = (k - q - 1) + 1 by omega, List.getElem?_cons_succ, List.getElem?_drop, show q + (k - q - 1) = k - 1 by omega]
theorem mem_drop_k {od : List Nat} {q b : Nat} (h : b ∈ od.drop q) : ∃ k, q ≤ k ∧ k < od.length ∧ od.getD k 0 = b := by
  obtain ⟨i, hi, e⟩ := List.mem_iff_getElem.mp h
  rw [List.length_drop] at hi
  rw [List.getElem_drop] at e
  refine ⟨q + i, by omega, by omega, ?_⟩
  rw [List.getD_eq_getElem?_getD, List.getElem?_eq_getElem (by omega)]
  exact e
theorem mem_take_k {od : List Nat} {q b : Nat} (h : b ∈ od.take q) : ∃ k, k < q ∧ k < od.length ∧ od.getD k 0 = b := by
  obtain ⟨i, hi, e⟩ := List.mem_iff_getElem.mp h
  rw [List.length_take] at hi
  rw [List.getElem_take] at e
  refine ⟨i, by omega, by omega, ?_⟩
  rw [List.getD_eq_getElem?_getD, List.getElem?_eq_getElem (by omega)]
  exact e
theorem pw_get {od : List Nat} {R : Nat → Nat → Prop} (h : od.Pairwise R) {i j : Nat} (hij : i < j) (hj : j < od.length) : R (od.getD i 0) (od.getD j 0) := by
  have := List.pairwise_iff_getElem.mp h i j (by omega) hj hij
  rw [List.getD_eq_getElem?_getD, List.getD_eq_getElem?_getD, List.getElem?_eq_getElem (by omega), List.getElem?_eq_getElem hj]
  exact this
theorem s_put {xs ys tk ord : Nat → Int32} {od : List Nat} {slot : Nat} {x y : Int32} (hs : slot < 20) (hlen : od.length < 20) (hod : ∀ a ∈ od, a < 20) (hns : slot ∉ od) (ho : ∀ k, k < od.length → ord k = nI (od.getD k 0))
    (hp : od.Pairwise (fun a b => lex (ptf xs ys a) (ptf xs ys b))) (hne : ∀ a ∈ od, ¬ (xs a = x ∧ ys a = y)) :
    ∃ (ord' : Nat → Int32) (od' : List Nat), f_P_put xs ys tk ord (nI od.length) (nI slot) x y = some (upd xs slot x, upd ys slot y, upd tk slot 1, ord', nI od'.length) ∧ (∀ k, k < od'.length → ord' k = nI (od'.getD k 0)) ∧ od'.Pairwise (fun a b => lex (ptf (upd xs slot x) (upd ys slot y) a) (ptf (upd xs slot x) (upd ys slot y) b)) ∧ (∀ i, i ∈ od' ↔ i = slot ∨ i ∈ od) := by
  have same : ∀ a ∈ od, ptf (upd xs slot x) (upd ys slot y) a = ptf xs ys a := by
    intro a ha
    have : a ≠ slot := fun h => hns (h ▸ ha)
    unfold ptf
    rw [upd_n this, upd_n this]
  have hp' : od.Pairwise (fun a b => lex (ptf (upd xs slot x) (upd ys slot y) a) (ptf (upd xs slot x) (upd ys slot y) b)) := List.Pairwise.imp_of_mem (fun ha hb h => by rw [same _ ha, same _ hb]; exact h) hp
  obtain ⟨q, o', e, hq, h1, h2, h3, h4, h5⟩ := put_loop (xs := upd xs slot x) (ys := upd ys slot y) (tk := upd tk slot 1) (pn := nI od.length) hs hlen (fun k hk => hod _ (getD_mem hk)) 600 od.length ord (by omega) (Nat.le_refl _) ho (fun k a b => by omega) (fun k a b => by omega)
  have hl : (od.take q ++ slot :: od.drop q).length = od.length + 1 := by simp; omega
  refine ⟨o', od.take q ++ slot :: od.drop q, ?_, ?_, ?_, ?_⟩
  · unfold f_P_put
    rw [if_pos (ix_nI hs (by decide)), if_pos (ix_nI hs (by decide)), if_pos (ix_nI hs (by decide)), cl_nI hs (by decide), e, hl]
    rw [show nI od.length + 1 = nI (od.length + 1) from nI_1 _]
  · intro k hk
    rw [hl] at hk
    rw [ins_getD od q slot k hq]
    split
    · exact h1 k (by assumption)
    · split
      · rename_i e2
        rw [e2]; exact h2
      · have := h3 (k - 1) (by omega) (by omega)
        rw [show k - 1 + 1 = k by omega] at this
        exact this
  · have hsp := hp'
    rw [← List.take_append_drop q od, List.pairwise_append] at hsp
    rw [List.pairwise_append, List.pairwise_cons]
    have back : ∀ k, k < q → lex (ptf (upd xs slot x) (upd ys slot y) (od.getD k 0)) (ptf (upd xs slot x) (upd ys slot y) slot) := by
      have last : ∀ k, k + 1 = q → lex (ptf (upd xs slot x) (upd ys slot y) (od.getD k 0)) (ptf (upd xs slot x) (upd ys slot y) slot) := by
        intro k hk
        have n1 := h5 k hk
        have hm : od.getD k 0 ∈ od := getD_mem (by omega)
        rcases Classical.em (lex (ptf (upd xs slot x) (upd ys slot y) (od.getD k 0)) (ptf (upd xs slot x) (upd ys slot y) slot)) with h | h
        · exact h
        · exfalso
          have e2 := lex_tri h n1
          have hn : od.getD k 0 ≠ slot := fun h => hns (h ▸ hm)
          unfold ptf at e2
          rw [upd_n hn, upd_n hn, upd_s, upd_s] at e2
          exact hne _ hm ⟨Int32.toInt_inj.mp (congrArg Prod.fst e2), Int32.toInt_inj.mp (congrArg Prod.snd e2)⟩
      intro k hk
      by_cases h : k + 1 = q
      · exact last k h
      · exact lex_tr (pw_get hp' (i := k) (j := q - 1) (by omega) (by omega)) (last (q - 1) (by omega))
    refine ⟨hsp.1, ⟨?_, hsp.2.1⟩, ?_⟩
    · intro b hb
      obtain ⟨k, k1, k2, rfl⟩ := mem_drop_k hb
      exact h4 k k1 k2
    · intro a ha b hb
      rcases List.mem_cons.mp hb with rfl | hb
      · obtain ⟨k, k1, k2, rfl⟩ := mem_take_k ha
        exact back k k1
      · exact hsp.2.2 a ha b hb
  · intro i
    rw [List.mem_append, List.mem_cons]
    have : i ∈ od ↔ i ∈ od.take q ∨ i ∈ od.drop q := by
      conv => lhs; rw [← List.take_append_drop q od, List.mem_append]
    rw [this]
    constructor
    · rintro (h | h | h)
      · exact Or.inr (Or.inl h)
      · exact Or.inl h
      · exact Or.inr (Or.inr h)
    · rintro (h | h | h)
      · exact Or.inr (Or.inl h)
      · exact Or.inl h
      · exact Or.inr (Or.inr h)
theorem drop_loop {tk : Nat → Int32} {od : List Nat} {slot : Nat} (hs : slot < 20) (hlen : od.length ≤ 20) (hod : ∀ a ∈ od, a < 20) :
    ∀ (n p : Nat) (o : Nat → Int32) (kept : List Nat), od.length - p < n → p ≤ od.length → kept = (od.take p).filter (fun a => a != slot) → (∀ j, j < kept.length → o j = nI (kept.getD j 0)) → (∀ j, p ≤ j → j < od.length → o j = nI (od.getD j 0)) →
    ∃ o', f_P_drop_L11 n tk o (nI od.length) (nI slot) (nI kept.length) (nI p) = some (tk, o', nI (od.filter (fun a => a != slot)).length) ∧ ∀ j, j < (od.filter (fun a => a != slot)).length → o' j = nI ((od.filter (fun a => a != slot)).getD j 0) := by
  intro n
  induction n with
  | zero => intro p o kept h; exact absurd h (Nat.not_lt_zero _)
  | succ n ih =>
    intro p o kept hn hp hk h1 h2
    rw [f_P_drop_L11]
    by_cases hpl : p = od.length
    · rw [if_pos (nI_le (by omega) (by omega))]
      rw [hpl, List.take_length] at hk
      subst hk
      exact ⟨o, rfl, h1⟩
    · have hpl : p < od.length := by omega
      have hb : od.getD p 0 < 20 := hod _ (getD_mem hpl)
      have ht : od.take (p + 1) = od.take p ++ [od.getD p 0] := by
        rw [List.take_succ_eq_append_getElem hpl, List.getD_eq_getElem?_getD, List.getElem?_eq_getElem hpl]
        rfl
      have hkl : kept.length ≤ p := by
        rw [hk]
        refine Nat.le_trans (List.length_filter_le _ _) ?_
        rw [List.length_take]; omega
      rw [if_neg (nI_ge hpl (by omega)), if_pos (ix_nI (show p < 20 by omega) (by decide)), cl_nI (show p < 20 by omega) (by decide), h2 p (Nat.le_refl _) hpl]
      generalize hv : od.getD p 0 = v at hb ht ⊢
      by_cases he : v = slot
      · rw [if_pos (by rw [he]), nI_1]
        refine ih (p + 1) o kept (by omega) (by omega) ?_ h1 (fun j a b => h2 j (by omega) b)
        rw [ht, List.filter_append, hk, he]
        simp
      · rw [if_neg (fun h => he ((nI_eq (by omega) (by omega)).mp h)), if_pos (ix_nI (show p < 20 by omega) (by decide)), if_pos (ix_nI (show kept.length < 20 by omega) (by decide)), cl_nI (show kept.length < 20 by omega) (by decide), nI_1, nI_1]
        have hone : [v].filter (fun a => a != slot) = [v] := by simp [he]
        have hk2 : kept ++ [v] = (od.take (p + 1)).filter (fun a => a != slot) := by
          rw [ht, List.filter_append, hone, hk]
        have := ih (p + 1) (upd o kept.length (nI v)) (kept ++ [v]) (by omega) (by omega) hk2 ?_ ?_
        · rw [List.length_append] at this
          exact this
        · intro j hj
          rw [List.length_append] at hj
          by_cases e : j = kept.length
          · subst e
            rw [upd_s, List.getD_eq_getElem?_getD, List.getElem?_append_right (Nat.le_refl _), Nat.sub_self]
            rfl
          · have hj2 : j < kept.length := by simp at hj; omega
            rw [upd_n e, h1 j hj2, List.getD_eq_getElem?_getD, List.getD_eq_getElem?_getD, List.getElem?_append_left hj2]
        · intro j a b
          rw [upd_n (by omega)]
          exact h2 j (by omega) b
/-- what is known of the sites: where they may lie, that no two are one -/
def PI (xs ys tk : Nat → Int32) : Prop := B6 xs ∧ B6 ys ∧ (∀ i, tk i = 0 ∨ tk i = 1) ∧ (∀ i, tk i ≠ 0 → i < 20) ∧ (∀ i j, tk i ≠ 0 → tk j ≠ 0 → xs i = xs j → ys i = ys j → i = j)
theorem s_drop {xs ys tk ord : Nat → Int32} {pn : Int32} {od : List Nat} {slot : Nat} (hs : slot < 20) (hI : PI xs ys tk) (hO : OI xs ys tk ord pn od) :
    ∃ (ord' : Nat → Int32), f_P_drop tk ord pn (nI slot) = some (upd tk slot 0, ord', nI (od.filter (fun a => a != slot)).length) ∧ OI xs ys (upd tk slot 0) ord' (nI (od.filter (fun a => a != slot)).length) (od.filter (fun a => a != slot)) := by
  obtain ⟨h1, h2, h3, h4⟩ := hO
  have hm : ∀ a ∈ od, a < 20 := fun a ha => hI.2.2.2.1 a ((h4 a).mp ha)
  have hl := od_len (pw_nodup h3) hm
  obtain ⟨o', e, k⟩ := drop_loop (tk := upd tk slot 0) hs hl hm 600 0 ord [] (by omega) (Nat.zero_le _) (by simp) (fun j hj => absurd hj (Nat.not_lt_zero _)) (fun j _ hj => h2 j hj)
  refine ⟨o', ?_, rfl, k, List.Pairwise.filter _ h3, ?_⟩
  · unfold f_P_drop
    rw [if_pos (ix_nI hs (by decide)), cl_nI hs (by decide), h1]
    exact e
  · intro i
    rw [List.mem_filter, h4 i]
    by_cases e : i = slot
    · subst e
      simp [upd_s]
    · rw [upd_n e]
      simp [e]
theorem PI_rem {xs ys tk : Nat → Int32} {slot : Nat} (h : PI xs ys tk) : PI xs ys (upd tk slot 0) := by
  obtain ⟨a, b, c, d, e⟩ := h
  have back : ∀ i, upd tk slot 0 i ≠ 0 → tk i ≠ 0 := by
    intro i hi
    by_cases q : i = slot
    · subst q; rw [upd_s] at hi; exact absurd rfl hi
    · rw [upd_n q] at hi; exact hi
  refine ⟨a, b, ?_, fun i hi => d i (back i hi), fun i j hi hj => e i j (back i hi) (back j hj)⟩
  intro i
  by_cases q : i = slot
  · subst q; rw [upd_s]; exact Or.inl rfl
  · rw [upd_n q]; exact c i
theorem PI_put {xs ys tk : Nat → Int32} {slot : Nat} {x y : Int32} (h : PI xs ys tk) (hs : slot < 20) (bx : -1000000 ≤ x.toInt ∧ x.toInt ≤ 1000000) (by' : -1000000 ≤ y.toInt ∧ y.toInt ≤ 1000000) (hne : ∀ a, tk a ≠ 0 → a ≠ slot → ¬ (xs a = x ∧ ys a = y)) : PI (upd xs slot x) (upd ys slot y) (upd tk slot 1) := by
  obtain ⟨a, b, c, d, e⟩ := h
  refine ⟨?_, ?_, ?_, ?_, ?_⟩
  · intro i
    by_cases q : i = slot
    · subst q; rw [upd_s]; exact bx
    · rw [upd_n q]; exact a i
  · intro i
    by_cases q : i = slot
    · subst q; rw [upd_s]; exact by'
    · rw [upd_n q]; exact b i
  · intro i
    by_cases q : i = slot
    · subst q; rw [upd_s]; exact Or.inr rfl
    · rw [upd_n q]; exact c i
  · intro i hi
    by_cases q : i = slot
    · rw [q]; exact hs
    · rw [upd_n q] at hi; exact d i hi
  · intro i j hi hj e1 e2
    by_cases q : i = slot <;> by_cases r : j = slot
    · rw [q, r]
    · subst q
      rw [upd_n r] at hj e1 e2
      rw [upd_s] at e1 e2
      exact absurd ⟨e1.symm, e2.symm⟩ (hne j hj r)
    · subst r
      rw [upd_n q] at hi e1 e2
      rw [upd_s] at e1 e2
      exact absurd ⟨e1, e2⟩ (hne i hi q)
    · rw [upd_n q] at hi e1 e2
      rw [upd_n r] at hj e1 e2
      exact e i j hi hj e1 e2
