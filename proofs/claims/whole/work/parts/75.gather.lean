/-! addToRing and gatherRing: the sites of a circle, sorted as seen from the earliest. -/
def HL (R : List Nat) (o : Nat → Int32) : Prop := ∀ k, k < R.length → o k = nI (R.getD k 0)
theorem ring_loop {xs ys : Nat → Int32} (hx : B6 xs) (hy : B6 ys) {R : List Nat} {s : Nat} {rn : Int32} (hs : s < 20) (hl : R.length < 20) (h20 : ∀ a ∈ R, a < 20) :
    ∀ (n p : Nat) (o : Nat → Int32), p < n → p ≤ R.length → (p = 0 → R.length = 0) → (∀ k, k < p → o k = nI (R.getD k 0)) → (∀ k, p ≤ k → k < R.length → o (k + 1) = nI (R.getD k 0)) → (∀ k, p ≤ k → k < R.length → 0 < ori (ptf xs ys (R.getD 0 0)) (ptf xs ys s) (ptf xs ys (R.getD k 0))) →
    ∃ (q : Nat) (o' : Nat → Int32), f_M_addToRing_L5 xs ys n o rn (nI s) (nI p) = some (o', rn + 1) ∧ q ≤ R.length ∧ (q = 0 → R.length = 0) ∧ (∀ k, k < q → o' k = nI (R.getD k 0)) ∧ o' q = nI s ∧ (∀ k, q ≤ k → k < R.length → o' (k + 1) = nI (R.getD k 0)) ∧ (∀ k, q ≤ k → k < R.length → 0 < ori (ptf xs ys (R.getD 0 0)) (ptf xs ys s) (ptf xs ys (R.getD k 0))) ∧ (∀ k, k + 1 = q → 0 < k → ori (ptf xs ys (R.getD 0 0)) (ptf xs ys s) (ptf xs ys (R.getD k 0)) ≤ 0) := by
  have e1 : (1 : Int32) = nI 1 := by decide
  intro n
  induction n with
  | zero => intro p o h; exact absurd h (Nat.not_lt_zero _)
  | succ n ih =>
    intro p o hpn hp h0 h1 h2 h3
    have stop : (∀ k, k + 1 = p → 0 < k → ori (ptf xs ys (R.getD 0 0)) (ptf xs ys s) (ptf xs ys (R.getD k 0)) ≤ 0) → ∃ (q : Nat) (o' : Nat → Int32), f_M_addToRing_b52 xs ys o rn (nI s) (nI p) = some (o', rn + 1) ∧ q ≤ R.length ∧ (q = 0 → R.length = 0) ∧ (∀ k, k < q → o' k = nI (R.getD k 0)) ∧ o' q = nI s ∧ (∀ k, q ≤ k → k < R.length → o' (k + 1) = nI (R.getD k 0)) ∧ (∀ k, q ≤ k → k < R.length → 0 < ori (ptf xs ys (R.getD 0 0)) (ptf xs ys s) (ptf xs ys (R.getD k 0))) ∧ (∀ k, k + 1 = q → 0 < k → ori (ptf xs ys (R.getD 0 0)) (ptf xs ys s) (ptf xs ys (R.getD k 0)) ≤ 0) := by
      intro h4
      refine ⟨p, upd o p (nI s), ?_, hp, h0, ?_, upd_s, ?_, h3, h4⟩
      · unfold f_M_addToRing_b52
        rw [if_pos (ix_nI (show p < 20 by omega) (by decide)), cl_nI (show p < 20 by omega) (by decide)]
      · intro k hk
        rw [upd_n (by omega)]; exact h1 k hk
      · intro k hk hk2
        rw [upd_n (by omega)]; exact h2 k hk hk2
    rw [f_M_addToRing_L5]
    by_cases hp1 : p ≤ 1
    · rw [if_pos (show nI p ≤ (1 : Int32) by rw [e1]; exact nI_le hp1 (by omega))]
      exact stop (fun k hk hk0 => by omega)
    · obtain ⟨p', rfl⟩ : ∃ p', p = p' + 1 := ⟨p - 1, by omega⟩
      have hb : R.getD p' 0 < 20 := h20 _ (getD_mem (by omega))
      have hb0 : R.getD 0 0 < 20 := h20 _ (getD_mem (by omega))
      have i0 : ix (0 : Int32) 20 = true := by rw [← nI_0]; exact ix_nI (by omega) (by decide)
      have c0 : (0 : Int32).toNatClampNeg = 0 := sb_cl0
      have g1 : ¬ nI (p' + 1) ≤ (1 : Int32) := by rw [e1]; exact nI_ge (by omega) (by omega)
      rw [if_neg g1, show nI (p' + 1) - 1 = nI p' from nI_pred p', if_pos i0, if_pos (ix_nI (show p' < 20 by omega) (by decide)), c0, cl_nI (show p' < 20 by omega) (by decide), h1 0 (by omega), h1 p' (by omega), s_side hx hy hb0 hs hb]
      dsimp only [Option.bind]
      by_cases hz : ori (ptf xs ys (R.getD 0 0)) (ptf xs ys s) (ptf xs ys (R.getD p' 0)) ≤ 0
      · rw [if_pos (sg_le.mpr hz)]
        refine stop (fun k hk _ => ?_)
        have : k = p' := by omega
        rw [this]; exact hz
      · rw [if_neg (fun q => hz (sg_le.mp q)), if_pos (ix_nI (show p' < 20 by omega) (by decide)), if_pos (ix_nI (show p' + 1 < 20 by omega) (by decide)), cl_nI (show p' + 1 < 20 by omega) (by decide), pk_m1]
        refine ih p' _ (by omega) (by omega) (fun q => by omega) ?_ ?_ ?_
        · intro k hk
          rw [upd_n (by omega)]; exact h1 k (by omega)
        · intro k hk hk2
          by_cases e : k = p'
          · subst e
            rw [upd_s]
          · rw [upd_n (by omega)]; exact h2 k (by omega) hk2
        · intro k hk hk2
          by_cases e : k = p'
          · subst e
            omega
          · exact h3 k (by omega) hk2
theorem RS_ins {pt : Nat → Int × Int} {R : List Nat} {s q : Nat} (h : RS pt R) (hlt : ∀ y ∈ R, lex (pt y) (pt s)) (hq : q ≤ R.length) (hq0 : q = 0 → R.length = 0) (hne : ∀ k, 0 < k → k < R.length → ori (pt (R.getD 0 0)) (pt s) (pt (R.getD k 0)) ≠ 0)
    (h3 : ∀ k, q ≤ k → k < R.length → 0 < ori (pt (R.getD 0 0)) (pt s) (pt (R.getD k 0))) (h4 : ∀ k, k + 1 = q → 0 < k → ori (pt (R.getD 0 0)) (pt s) (pt (R.getD k 0)) ≤ 0) : RS pt (R.take q ++ s :: R.drop q) := by
  cases R with
  | nil =>
    have e : q = 0 := by simpa using hq
    subst e
    exact ⟨fun x hx => (by cases hx), List.Pairwise.nil⟩
  | cons r l =>
    cases q with
    | zero => exact absurd (hq0 rfl) (by simp)
    | succ q =>
      rw [List.length_cons] at hq hne h3
      show RS pt (r :: (l.take q ++ s :: l.drop q))
      have hrs : lex (pt r) (pt s) := hlt r (by simp)
      refine ⟨fun x hx => ?_, ?_⟩
      · rcases List.mem_append.mp hx with k | k
        · exact h.1 x (List.mem_of_mem_take k)
        · rcases List.mem_cons.mp k with k | k
          · rw [k]; exact hrs
          · exact h.1 x (List.mem_of_mem_drop k)
      · have hsp := h.2
        rw [← List.take_append_drop q l, List.pairwise_append] at hsp
        rw [List.pairwise_append, List.pairwise_cons]
        have lastk : ∀ k, k + 1 = q → 0 < ori (pt r) (pt (l.getD k 0)) (pt s) := by
          intro k hk
          have a1 := h4 (k + 1) (by omega) (by omega)
          have a2 := hne (k + 1) (by omega) (by omega)
          have a1' : ori (pt r) (pt s) (pt (l.getD k 0)) ≤ 0 := a1
          have a2' : ori (pt r) (pt s) (pt (l.getD k 0)) ≠ 0 := a2
          rw [ori_sw2]
          omega
        refine ⟨hsp.1, ⟨?_, hsp.2.1⟩, ?_⟩
        · intro y hy
          obtain ⟨k, k1, k2, rfl⟩ := mem_drop_k hy
          exact h3 (k + 1) (by omega) (by omega)
        · intro x hx y hy
          rcases List.mem_cons.mp hy with e | e
          · rw [e]
            obtain ⟨k, k1, k2, rfl⟩ := mem_take_k hx
            by_cases c : k + 1 = q
            · exact lastk k c
            · have b1 := pw_get (R := fun x y => 0 < ori (pt r) (pt x) (pt y)) h.2 (i := k) (j := q - 1) (by omega) (by omega)
              have b2 := lastk (q - 1) (by omega)
              have m1 : l.getD k 0 ∈ l := getD_mem (by omega)
              have m2 : l.getD (q - 1) 0 ∈ l := getD_mem (by omega)
              rw [ori_c1] at b1 b2 ⊢
              exact hp_tr1 (lpos_vec (h.1 _ m1)) (lpos_vec (h.1 _ m2)) (lpos_vec hrs) b1 (Int.le_of_lt b2)
          · exact hsp.2.2 x hx y e
section G
variable {xs ys ord : Nat → Int32} {pn : Int32} {od R : List Nat} {f t a s : Nat}
theorem s_addToRing (hx : B6 xs) (hy : B6 ys) (o : ori (ptf xs ys f) (ptf xs ys t) (ptf xs ys a) ≠ 0) (hs : s < 20) (hl : R.length < 20) (h20 : ∀ a ∈ R, a < 20) (hS : RS (ptf xs ys) R) (hlt : ∀ y ∈ R, lex (ptf xs ys y) (ptf xs ys s))
    (hc : ∀ y ∈ R, inc (ptf xs ys f) (ptf xs ys t) (ptf xs ys a) (ptf xs ys y) = 0) (hcs : inc (ptf xs ys f) (ptf xs ys t) (ptf xs ys a) (ptf xs ys s) = 0) {ri : Nat → Int32} (hH : HL R ri) :
    ∃ (ri' : Nat → Int32) (R' : List Nat), f_M_addToRing xs ys ri (nI R.length) (nI s) = some (ri', nI R'.length) ∧ HL R' ri' ∧ RS (ptf xs ys) R' ∧ ∀ d, d ∈ R' ↔ d = s ∨ d ∈ R := by
  obtain ⟨q, o', e, hq, hq0, h1, h2, h3, h4, h5⟩ := ring_loop hx hy (rn := nI R.length) hs hl h20 600 R.length ri (by omega) (Nat.le_refl _) id hH (fun k a b => by omega) (fun k a b => by omega)
  have hlen : (R.take q ++ s :: R.drop q).length = R.length + 1 := by simp; omega
  have hne : ∀ k, 0 < k → k < R.length → ori (ptf xs ys (R.getD 0 0)) (ptf xs ys s) (ptf xs ys (R.getD k 0)) ≠ 0 := by
    intro k k0 hk
    have m0 : R.getD 0 0 ∈ R := getD_mem (by omega)
    have mk : R.getD k 0 ∈ R := getD_mem hk
    refine circ_ne o (hc _ m0) hcs (hc _ mk) ?_ ?_ ?_
    · intro q; have := hlt _ m0; rw [q] at this; exact lex_ir this
    · intro q; have := RS_first hS k0 hk; rw [q] at this; exact lex_ir this
    · intro q; have := hlt _ mk; rw [← q] at this; exact lex_ir this
  refine ⟨o', R.take q ++ s :: R.drop q, ?_, ?_, RS_ins hS hlt hq hq0 hne h4 h5, ?_⟩
  · unfold f_M_addToRing
    rw [e, hlen, nI_1]
  · intro k hk
    rw [hlen] at hk
    rw [ins_getD R q s k hq]
    split
    · exact h1 k (by assumption)
    · split
      · rename_i e2
        rw [e2]; exact h2
      · have := h3 (k - 1) (by omega) (by omega)
        rw [show k - 1 + 1 = k by omega] at this
        exact this
  · intro d
    rw [List.mem_append, List.mem_cons]
    have : d ∈ R ↔ d ∈ R.take q ∨ d ∈ R.drop q := by
      conv => lhs; rw [← List.take_append_drop q R, List.mem_append]
    rw [this]
    constructor
    · rintro (h | h | h)
      · exact Or.inr (Or.inl h)
      · exact Or.inl h
      · exact Or.inr (Or.inr h)
    · rintro (h | h | h)
      · exact Or.inr (Or.inl h)
      · exact Or.inl h
      · exact Or.inr (Or.inr h)
theorem gather_loop (hx : B6 xs) (hy : B6 ys) (h20 : od.length ≤ 20) (hm : ∀ a ∈ od, a < 20) (ho : ∀ k, k < od.length → ord k = nI (od.getD k 0)) (hpn : pn = nI od.length) (hp : od.Pairwise (fun a b => lex (ptf xs ys a) (ptf xs ys b)))
    (hf : f < 20) (ht : t < 20) (ha : a < 20) (o : ori (ptf xs ys f) (ptf xs ys t) (ptf xs ys a) ≠ 0) : ∀ (n k : Nat) (ri : Nat → Int32) (R : List Nat), od.length - k < n → k ≤ od.length → HL R ri → RS (ptf xs ys) R → (∀ d, d ∈ R ↔ d ∈ od.take k ∧ inc (ptf xs ys f) (ptf xs ys t) (ptf xs ys a) (ptf xs ys d) = 0) →
    ∃ (ri' : Nat → Int32) (R' : List Nat), f_M_gatherRing_L8 xs ys ord pn n ri (nI R.length) (nI f) (nI t) (nI a) (nI k) = some (ri', nI R'.length) ∧ HL R' ri' ∧ RS (ptf xs ys) R' ∧ ∀ d, d ∈ R' ↔ d ∈ od ∧ inc (ptf xs ys f) (ptf xs ys t) (ptf xs ys a) (ptf xs ys d) = 0 := by
  intro n
  induction n with
  | zero => intro k ri R h; exact absurd h (Nat.not_lt_zero _)
  | succ n ih =>
    intro k ri R hn hk hH hS hR
    rw [f_M_gatherRing_L8]
    dsimp only [Option.bind, f_P_size]
    by_cases e : k = od.length
    · rw [if_pos (show pn ≤ nI k by rw [hpn, e]; exact nI_le (Nat.le_refl _) (by omega))]
      refine ⟨ri, R, rfl, hH, hS, fun d => ?_⟩
      rw [hR d, e, List.take_length]
    · have hk' : k < od.length := by omega
      have mk : od.getD k 0 ∈ od := getD_mem hk'
      have bk := hm _ mk
      have hsub : ∀ y ∈ R, y ∈ od.take k := fun y hy => ((hR y).mp hy).1
      have hRl : R.length ≤ k := by
        have := List.Nodup.length_le_of_subset (RS_nodup hS) (l₂ := od.take k) hsub
        rw [List.length_take] at this
        omega
      have hR20 : ∀ y ∈ R, y < 20 := fun y hy => hm y (List.mem_of_mem_take (hsub y hy))
      have htk : od.take (k + 1) = od.take k ++ [od.getD k 0] := by
        rw [List.take_succ_eq_append_getElem hk', List.getD_eq_getElem?_getD, List.getElem?_eq_getElem hk']
        rfl
      rw [if_neg (show ¬ pn ≤ nI k by rw [hpn]; exact nI_ge hk' (by omega)), s_inOrder h20 ho hk']
      dsimp only
      rw [s_circ hx hy hf ht ha bk, nI_1]
      dsimp only
      by_cases hz : inc (ptf xs ys f) (ptf xs ys t) (ptf xs ys a) (ptf xs ys (od.getD k 0)) = 0
      · have hlt : ∀ y ∈ R, lex (ptf xs ys y) (ptf xs ys (od.getD k 0)) := by
          intro y hy'
          obtain ⟨j, j1, j2, rfl⟩ := mem_take_k (hsub y hy')
          exact pw_get (R := fun a b => lex (ptf xs ys a) (ptf xs ys b)) hp j1 hk'
        obtain ⟨ri', R', e1, H', S', M'⟩ := s_addToRing hx hy o bk (by omega) hR20 hS hlt (fun y hy' => ((hR y).mp hy').2) hz hH
        rw [hz, sg_zero, if_pos (Eq.refl (0 : Int32)), e1]
        dsimp only
        refine ih (k + 1) ri' R' (by omega) (by omega) H' S' (fun d => ?_)
        rw [M' d, hR d, htk, List.mem_append]
        constructor
        · rintro (q | q)
          · rw [q]; exact ⟨Or.inr (by simp), hz⟩
          · exact ⟨Or.inl q.1, q.2⟩
        · rintro ⟨q | q, z⟩
          · exact Or.inr ⟨q, z⟩
          · exact Or.inl (by simpa using q)
      · have hs : ¬ sg (inc (ptf xs ys f) (ptf xs ys t) (ptf xs ys a) (ptf xs ys (od.getD k 0))) = 0 := by
          rcases sg_cases (inc (ptf xs ys f) (ptf xs ys t) (ptf xs ys a) (ptf xs ys (od.getD k 0))) with ⟨h, e⟩ | ⟨h, e⟩ | ⟨h, e⟩
          · rw [e]; decide
          · exact absurd h hz
          · rw [e]; decide
        rw [if_neg hs]
        refine ih (k + 1) ri R (by omega) (by omega) hH hS (fun d => ?_)
        rw [hR d, htk, List.mem_append]
        constructor
        · rintro ⟨q, z⟩
          exact ⟨Or.inl q, z⟩
        · rintro ⟨q | q, z⟩
          · exact ⟨q, z⟩
          · have e2 : d = od.getD k 0 := by simpa using q
            rw [e2] at z
            exact absurd z hz
theorem s_gather (hx : B6 xs) (hy : B6 ys) (h20 : od.length ≤ 20) (hm : ∀ a ∈ od, a < 20) (ho : ∀ k, k < od.length → ord k = nI (od.getD k 0)) (hpn : pn = nI od.length) (hp : od.Pairwise (fun a b => lex (ptf xs ys a) (ptf xs ys b))) (hE : Emp (ptf xs ys) od f t a) (ri : Nat → Int32) (rn : Int32) :
    ∃ (ri' : Nat → Int32) (R : List Nat), f_M_gatherRing xs ys ord pn ri rn (nI f) (nI t) (nI a) = some (ri', nI R.length) ∧ HL R ri' ∧ Rg (ptf xs ys) od R f t a := by
  obtain ⟨ri', R, e, h1, h2, h3⟩ := gather_loop hx hy h20 hm ho hpn hp (hm _ hE.1) (hm _ hE.2.1) (hm _ hE.2.2.1) (Int.ne_of_gt hE.2.2.2.1) 600 0 ri [] (by omega) (Nat.zero_le _) (fun k hk => absurd hk (Nat.not_lt_zero _)) trivial (fun d => ⟨fun q => (by cases q), fun q => absurd q.1 (by simp)⟩)
  rw [List.length_nil, nI_0] at e
  exact ⟨ri', R, e, h1, h3, h2⟩
end G
