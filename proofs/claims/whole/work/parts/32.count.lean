/-! At most forty triangles: each has a middle corner and a side of it, and no two share both. -/
def lexb (a b : Int × Int) : Bool := decide (a.1 < b.1) || (decide (a.1 = b.1) && decide (a.2 < b.2))
theorem lexb_iff {a b : Int × Int} : lexb a b = true ↔ lex a b := by simp [lexb, lex]
theorem lexb_f {a b : Int × Int} (h : lexb a b = false) : ¬ lex a b := fun k => by rw [lexb_iff.mpr k] at h; cases h
theorem lex_ir {a : Int × Int} : ¬ lex a a := by unfold lex; omega
def tcode (pt : Nat → Int × Int) (t : Nat × Nat × Nat) : Nat := if lexb (pt t.2.1) (pt t.2.2) then 2 * t.2.1 else 2 * t.2.2 + 1
theorem ori_sw2 (a b c : Int × Int) : ori a c b = - ori a b c := by unfold ori; grind
theorem tri_up {S : Nat → Prop} {pt : Nat → Int × Int} (hd : ∀ i j, S i → S j → pt i = pt j → i = j) {a1 c1 a2 c2 b : Nat} (h1 : isT S pt a1 b c1) (h2 : isT S pt a2 b c2) (l1 : lex (pt b) (pt c1)) (l2 : lex (pt b) (pt c2)) : a1 = a2 ∧ c1 = c2 := by
  have sa1 := h1.1
  have sa2 := h2.1
  have sc1 := h1.2.2.1
  have sc2 := h2.2.2.1
  have sb := h1.2.1
  have o1 := h1.2.2.2.1
  have o2 := h2.2.2.2.1
  have la1 := h1.2.2.2.2.1
  have la2 := h2.2.2.2.2.1
  have key := one_circle o1 o2 (Or.inl ⟨la1, l1, la2, l2⟩) (isT_empty h2 sa1) (isT_empty h2 sc1) (isT_empty h1 sa2) (isT_empty h1 sc2)
  have ea : a1 = a2 := by
    by_cases e : a2 = a1
    · exact e.symm
    have z1 : inc (pt a1) (pt b) (pt c1) (pt a2) = 0 := by
      have := key (pt a2)
      rw [inc_a, Int.zero_mul] at this
      rcases Int.mul_eq_zero.mp this.symm with h | h
      · exact h
      · omega
    have z2 : inc (pt a2) (pt b) (pt c2) (pt a1) = 0 := by
      have := key (pt a1)
      rw [inc_a, Int.zero_mul] at this
      rcases Int.mul_eq_zero.mp this with h | h
      · exact h
      · omega
    have n1 : a2 ≠ b := fun h => by rw [h] at la2; exact lex_ir la2
    have n2 : a2 ≠ c1 := fun h => by rw [← h] at l1; exact lex_asym l1 la2
    have n3 : a1 ≠ b := fun h => by rw [h] at la1; exact lex_ir la1
    have n4 : a1 ≠ c2 := fun h => by rw [← h] at l2; exact lex_asym l2 la1
    have q1 := ((h1.2.2.2.2.2.2 a2 sa2 e n1 n2).2 z1).1
    have q2 := ((h2.2.2.2.2.2.2 a1 sa1 (fun h => e h.symm) n3 n4).2 z2).1
    exact hd _ _ sa1 sa2 (lex_tri q2 q1)
  subst ea
  refine ⟨rfl, ?_⟩
  by_cases e : c2 = c1
  · exact e.symm
  have lc1 := h1.2.2.2.2.2.1
  have lc2 := h2.2.2.2.2.2.1
  have z1 : inc (pt a1) (pt b) (pt c1) (pt c2) = 0 := by
    have := key (pt c2)
    rw [inc_c, Int.zero_mul] at this
    rcases Int.mul_eq_zero.mp this.symm with h | h
    · exact h
    · omega
  have z2 : inc (pt a1) (pt b) (pt c2) (pt c1) = 0 := by
    rw [inc_end, z1]; rfl
  have m1 : c2 ≠ a1 := fun h => by rw [h] at lc2; exact lex_ir lc2
  have m2 : c2 ≠ b := fun h => by rw [h] at l2; exact lex_ir l2
  have m3 : c1 ≠ a1 := fun h => by rw [h] at lc1; exact lex_ir lc1
  have m4 : c1 ≠ b := fun h => by rw [h] at l1; exact lex_ir l1
  have q1 := ((h1.2.2.2.2.2.2 c2 sc2 m1 m2 e).2 z1).2
  have q2 := ((h2.2.2.2.2.2.2 c1 sc1 m3 m4 (fun h => e h.symm)).2 z2).2
  rw [ori_sw2] at q2
  have z3 : ori (pt b) (pt c1) (pt c2) = 0 := by omega
  exact (hd _ _ sc2 sc1 (line_circle (by omega) z3 z1 (fun h => m2 (hd _ _ sc2 sb h)))).symm
theorem tri_dn {S : Nat → Prop} {pt : Nat → Int × Int} (hd : ∀ i j, S i → S j → pt i = pt j → i = j) {a1 b1 a2 b2 c : Nat} (h1 : isT S pt a1 b1 c) (h2 : isT S pt a2 b2 c) (l1 : lex (pt c) (pt b1)) (l2 : lex (pt c) (pt b2)) : a1 = a2 ∧ b1 = b2 := by
  have sa1 := h1.1
  have sa2 := h2.1
  have sb1 := h1.2.1
  have sb2 := h2.2.1
  have sc := h1.2.2.1
  have o1 := h1.2.2.2.1
  have o2 := h2.2.2.2.1
  have la1 := h1.2.2.2.2.2.1
  have la2 := h2.2.2.2.2.2.1
  have key0 := one_circle (a1 := pt b1) (v := pt c) (c1 := pt a1) (a2 := pt b2) (c2 := pt a2) (by rw [ori_rot]; exact o1) (by rw [ori_rot]; exact o2) (Or.inr ⟨la1, l1, la2, l2⟩) (by rw [inc_rot]; exact isT_empty h2 sb1) (by rw [inc_rot]; exact isT_empty h2 sa1) (by rw [inc_rot]; exact isT_empty h1 sb2) (by rw [inc_rot]; exact isT_empty h1 sa2)
  have key : ∀ d, inc (pt a2) (pt b2) (pt c) d * ori (pt a1) (pt b1) (pt c) = inc (pt a1) (pt b1) (pt c) d * ori (pt a2) (pt b2) (pt c) := fun d => by
    have := key0 d
    rw [inc_rot (pt a2) (pt b2) (pt c), inc_rot (pt a1) (pt b1) (pt c), ori_rot (pt a1) (pt b1) (pt c), ori_rot (pt a2) (pt b2) (pt c)] at this
    exact this
  have ea : a1 = a2 := by
    by_cases e : a2 = a1
    · exact e.symm
    have z1 : inc (pt a1) (pt b1) (pt c) (pt a2) = 0 := by
      have := key (pt a2)
      rw [inc_a, Int.zero_mul] at this
      rcases Int.mul_eq_zero.mp this.symm with h | h
      · exact h
      · omega
    have z2 : inc (pt a2) (pt b2) (pt c) (pt a1) = 0 := by
      have := key (pt a1)
      rw [inc_a, Int.zero_mul] at this
      rcases Int.mul_eq_zero.mp this with h | h
      · exact h
      · omega
    have n1 : a2 ≠ c := fun h => by rw [h] at la2; exact lex_ir la2
    have n2 : a2 ≠ b1 := fun h => by rw [← h] at l1; exact lex_asym l1 la2
    have n3 : a1 ≠ c := fun h => by rw [h] at la1; exact lex_ir la1
    have n4 : a1 ≠ b2 := fun h => by rw [← h] at l2; exact lex_asym l2 la1
    have q1 := ((h1.2.2.2.2.2.2 a2 sa2 e n2 n1).2 z1).1
    have q2 := ((h2.2.2.2.2.2.2 a1 sa1 (fun h => e h.symm) n4 n3).2 z2).1
    exact hd _ _ sa1 sa2 (lex_tri q2 q1)
  subst ea
  refine ⟨rfl, ?_⟩
  by_cases e : b2 = b1
  · exact e.symm
  exfalso
  have lb1 := h1.2.2.2.2.1
  have lb2 := h2.2.2.2.2.1
  have z1 : inc (pt a1) (pt b1) (pt c) (pt b2) = 0 := by
    have := key (pt b2)
    rw [inc_b, Int.zero_mul] at this
    rcases Int.mul_eq_zero.mp this.symm with h | h
    · exact h
    · omega
  have z2 : inc (pt a1) (pt b2) (pt c) (pt b1) = 0 := by
    have := key (pt b1)
    rw [inc_b, Int.zero_mul] at this
    rcases Int.mul_eq_zero.mp this with h | h
    · exact h
    · omega
  have m1 : b2 ≠ a1 := fun h => by rw [h] at lb2; exact lex_ir lb2
  have m2 : b2 ≠ c := fun h => by rw [h] at l2; exact lex_ir l2
  have m3 : b1 ≠ a1 := fun h => by rw [h] at lb1; exact lex_ir lb1
  have m4 : b1 ≠ c := fun h => by rw [h] at l1; exact lex_ir l1
  have q1 := ((h1.2.2.2.2.2.2 b2 sb2 m1 e m2).2 z1).2
  have q2 := ((h2.2.2.2.2.2.2 b1 sb1 m3 (fun h => e h.symm) m4).2 z2).2
  have e5 : ori (pt b2) (pt c) (pt b1) = - ori (pt b1) (pt c) (pt b2) := by unfold ori; grind
  rw [e5] at q2
  have z3 : ori (pt b1) (pt c) (pt b2) = 0 := by omega
  exact m2 (hd _ _ sb2 sc (line_circle (by omega) z3 z1 (fun h => e (hd _ _ sb2 sb1 h))))
theorem tri_code {S : Nat → Prop} {pt : Nat → Int × Int} (hd : ∀ i j, S i → S j → pt i = pt j → i = j) {s t : Nat × Nat × Nat} (h1 : isT S pt s.1 s.2.1 s.2.2) (h2 : isT S pt t.1 t.2.1 t.2.2) (hc : tcode pt s = tcode pt t) : s = t := by
  obtain ⟨a1, b1, c1⟩ := s
  obtain ⟨a2, b2, c2⟩ := t
  have back : ∀ {a b c : Nat}, isT S pt a b c → ¬ lex (pt b) (pt c) → lex (pt c) (pt b) := by
    intro a b c h hn
    rcases Classical.em (lex (pt c) (pt b)) with k | k
    · exact k
    · have e := lex_tri hn k
      have o := h.2.2.2.1
      rw [e] at o
      have : ori (pt a) (pt c) (pt c) = 0 := by unfold ori; grind
      omega
  unfold tcode at hc
  dsimp only at hc h1 h2
  cases k1 : lexb (pt b1) (pt c1) <;> cases k2 : lexb (pt b2) (pt c2) <;> simp only [k1, k2, if_true, if_false, Bool.false_eq_true] at hc
  · have e : c1 = c2 := by omega
    subst e
    obtain ⟨u, v⟩ := tri_dn hd h1 h2 (back h1 (lexb_f k1)) (back h2 (lexb_f k2))
    rw [u, v]
  · omega
  · omega
  · have e : b1 = b2 := by omega
    subst e
    obtain ⟨u, v⟩ := tri_up hd h1 h2 (lexb_iff.mp k1) (lexb_iff.mp k2)
    rw [u, v]
theorem tri_count {S : Nat → Prop} {pt : Nat → Int × Int} (hd : ∀ i j, S i → S j → pt i = pt j → i = j) (h20 : ∀ i, S i → i < 20) (l : List (Nat × Nat × Nat)) (hn : l.Nodup) (h : ∀ t ∈ l, isT S pt t.1 t.2.1 t.2.2) : l.length ≤ 40 := by
  have hnd : (l.map (tcode pt)).Nodup := by
    unfold List.Nodup at hn ⊢
    rw [List.pairwise_map]
    refine List.Pairwise.imp_of_mem ?_ hn
    intro a b ha hb hne e
    exact hne (tri_code hd (h a ha) (h b hb) e)
  have hs : ∀ x ∈ l.map (tcode pt), x ∈ List.range 40 := by
    intro x hx
    obtain ⟨t, ht, rfl⟩ := List.mem_map.mp hx
    have k := h t ht
    have b := h20 _ k.2.1
    have c := h20 _ k.2.2.1
    rw [List.mem_range]
    unfold tcode
    split <;> omega
  have := List.Nodup.length_le_of_subset hnd hs
  rw [List.length_map, List.length_range] at this
  exact this
