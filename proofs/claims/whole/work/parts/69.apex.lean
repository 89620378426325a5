/-! apexOver: the site on the left whose circle has no other of that side inside. -/
theorem sg_le {z : Int} : sg z ≤ 0 ↔ z ≤ 0 := by
  rcases sg_cases z with ⟨h, e⟩ | ⟨h, e⟩ | ⟨h, e⟩
  · rw [e]; exact ⟨fun q => absurd q (by decide), fun q => by omega⟩
  · rw [e]; exact ⟨fun _ => by omega, fun _ => by decide⟩
  · rw [e]; exact ⟨fun _ => by omega, fun _ => by decide⟩
theorem inc_dd (f t a : Int × Int) : inc f t a a = 0 := inc_c f t a
theorem apex_loop {xs ys ord : Nat → Int32} {pn : Int32} {od : List Nat} (hx : B6 xs) (hy : B6 ys) (h20 : od.length ≤ 20) (hm : ∀ a ∈ od, a < 20) (ho : ∀ k, k < od.length → ord k = nI (od.getD k 0)) (hp : pn = nI od.length) {f t : Nat} (hf : f < 20) (ht : t < 20) :
    ∀ (n k : Nat) (x : Int32), od.length - k < n → k ≤ od.length → ((x = -1 ∧ ∀ j, j < k → ori (ptf xs ys f) (ptf xs ys t) (ptf xs ys (od.getD j 0)) ≤ 0) ∨ ∃ a, a ∈ od ∧ x = nI a ∧ 0 < ori (ptf xs ys f) (ptf xs ys t) (ptf xs ys a) ∧ ∀ j, j < k → 0 < ori (ptf xs ys f) (ptf xs ys t) (ptf xs ys (od.getD j 0)) → inc (ptf xs ys f) (ptf xs ys t) (ptf xs ys a) (ptf xs ys (od.getD j 0)) ≤ 0) →
    (f_M_apexOver_L5 xs ys ord pn n (nI f) (nI t) x (nI k) = some (-1) ∧ ∀ d ∈ od, ori (ptf xs ys f) (ptf xs ys t) (ptf xs ys d) ≤ 0) ∨ ∃ a, a ∈ od ∧ f_M_apexOver_L5 xs ys ord pn n (nI f) (nI t) x (nI k) = some (nI a) ∧ 0 < ori (ptf xs ys f) (ptf xs ys t) (ptf xs ys a) ∧ ∀ d ∈ od, 0 < ori (ptf xs ys f) (ptf xs ys t) (ptf xs ys d) → inc (ptf xs ys f) (ptf xs ys t) (ptf xs ys a) (ptf xs ys d) ≤ 0 := by
  intro n
  induction n with
  | zero => intro k x h; exact absurd h (Nat.not_lt_zero _)
  | succ n ih =>
    intro k x hn hk h
    rw [f_M_apexOver_L5]
    dsimp only [Option.bind, f_P_size]
    by_cases e : k = od.length
    · rw [if_pos (show pn ≤ nI k by rw [hp, e]; exact nI_le (Nat.le_refl _) (by omega))]
      rcases h with ⟨g1, g2⟩ | ⟨a, a1, a2, a3, a4⟩
      · refine Or.inl ⟨by rw [g1], fun d hd => ?_⟩
        obtain ⟨i, hi, q⟩ := od_ix hd
        rw [← q]; exact g2 i (by omega)
      · refine Or.inr ⟨a, a1, by rw [a2], a3, fun d hd ho' => ?_⟩
        obtain ⟨i, hi, q⟩ := od_ix hd
        rw [← q] at ho' ⊢
        exact a4 i (by omega) ho'
    · have hk' : k < od.length := by omega
      have mk : od.getD k 0 ∈ od := getD_mem hk'
      have bk := hm _ mk
      rw [if_neg (show ¬ pn ≤ nI k by rw [hp]; exact nI_ge hk' (by omega)), s_inOrder h20 ho hk']
      dsimp only
      rw [s_side hx hy hf ht bk, nI_1]
      dsimp only
      generalize hz : od.getD k 0 = z at mk bk ⊢
      by_cases hl : ori (ptf xs ys f) (ptf xs ys t) (ptf xs ys z) ≤ 0
      · rw [if_pos (sg_le.mpr hl)]
        refine ih (k + 1) x (by omega) (by omega) ?_
        rcases h with ⟨g1, g2⟩ | ⟨a, a1, a2, a3, a4⟩
        · refine Or.inl ⟨g1, fun j hj => ?_⟩
          by_cases q : j = k
          · rw [q, hz]; exact hl
          · exact g2 j (by omega)
        · refine Or.inr ⟨a, a1, a2, a3, fun j hj ho' => ?_⟩
          by_cases q : j = k
          · rw [q, hz] at ho'; omega
          · exact a4 j (by omega) ho'
      · rw [if_neg (fun q => hl (sg_le.mp q))]
        have hl' : 0 < ori (ptf xs ys f) (ptf xs ys t) (ptf xs ys z) := by omega
        rcases h with ⟨rfl, g2⟩ | ⟨a, a1, rfl, a3, a4⟩
        · rw [if_pos (Eq.refl (-1 : Int32))]
          refine ih (k + 1) (nI z) (by omega) (by omega) (Or.inr ⟨z, mk, rfl, hl', fun j hj ho' => ?_⟩)
          by_cases q : j = k
          · rw [q, hz, inc_dd]; exact Int.le_refl 0
          · have := g2 j (by omega)
            omega
        · rw [if_neg (neg1 (hm a a1)), s_circ hx hy hf ht (hm a a1) bk]
          dsimp only
          by_cases hc : inc (ptf xs ys f) (ptf xs ys t) (ptf xs ys a) (ptf xs ys z) ≤ 0
          · rw [if_pos (sg_le.mpr hc)]
            refine ih (k + 1) (nI a) (by omega) (by omega) (Or.inr ⟨a, a1, rfl, a3, fun j hj ho' => ?_⟩)
            by_cases q : j = k
            · rw [q, hz]; exact hc
            · exact a4 j (by omega) ho'
          · rw [if_neg (fun q => hc (sg_le.mp q))]
            refine ih (k + 1) (nI z) (by omega) (by omega) (Or.inr ⟨z, mk, rfl, hl', fun j hj ho' => ?_⟩)
            by_cases q : j = k
            · rw [q, hz, inc_dd]; exact Int.le_refl 0
            · exact Int.le_of_lt (apex_step a3 hl' ho' (by omega) (a4 j (by omega) ho'))
