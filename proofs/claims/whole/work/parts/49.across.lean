/-! across. -/
section Q
variable {xs ys tk ord row ke fs li wa ri na nb nc : Nat → Int32} {st pn on fl mn wn rn kn ct : Int32} {v : Int32 × (Nat → Int32) × Int32 × Int32 × (Nat → Int32) × (Nat → Int32) × Int32 × (Nat → Int32) × (Nat → Int32) × Int32 × (Nat → Int32) × Int32}
theorem k012 {y : Int32} (h0 : ¬ y < 0) (h2 : y ≤ 2) : y = 0 ∨ y = 1 ∨ y = 2 := by
  rcases pk_ix y (n := 3) (by decide) with h | h | ⟨j, hj, rfl⟩
  · exact absurd h h0
  · exact absurd h2 (by rw [Int32.le_iff_toInt_le] at h ⊢; have e1 : (nI 3).toInt = 3 := by decide
                        have e2 : (2 : Int32).toInt = 2 := by decide
                        omega)
  · match j, hj with
    | 0, _ => exact Or.inl (by decide)
    | 1, _ => exact Or.inr (Or.inl (by decide))
    | 2, _ => exact Or.inr (Or.inr (by decide))
theorem op_across (hI : PI xs ys tk) (hN : NI xs ys tk kn ct na nb nc) (hR : f_F_refresh st xs ys ord pn row on fl ke fs mn li wa wn ri rn = some v) (hM : MI (TL (Sx tk) (ptf xs ys)) v.2.2.2.2.1 v.2.2.2.2.2.2.1) (x y : Int32) :
    ∃ (r kn' ct' : Int32) (na' nb' nc' : Nat → Int32), f_F_across st xs ys ord pn row on fl ke fs mn li wa wn ri rn x y = some (r, v) ∧ f_N_across tk xs ys kn ct na nb nc x y = some (r, kn', ct', na', nb', nc') ∧ NI xs ys tk kn' ct' na' nb' nc' := by
  obtain ⟨kn', na', nb', nc', e, h1, h2⟩ := s_work hI hN
  have hlen : (TL (Sx tk) (ptf xs ys)).length ≤ 35 := hM.2.1
  unfold f_F_across f_N_across f_N_across_b60
  rw [hR, e]
  dsimp only [Option.bind]
  rcases mhas_cases hM x with ⟨k, hk, rfl, e1, k1, k2⟩ | ⟨e1, k1⟩
  · obtain ⟨g1, g2, g3⟩ := h2 k hk
    obtain ⟨c1, c2, c3⟩ := s_corner hM hk
    have cs := s_cset hM hk
    obtain ⟨ha, hb, hc⟩ := hM.2.2.1 _ (getD_mem3 hk)
    obtain ⟨d1, d2, d3⟩ := TL_dist (S := Sx tk) (pt := ptf xs ys) hI.2.2.2.1 _ (getD_mem3 hk)
    have hk40 : k < 40 := by omega
    simp only [if_pos (ix_nI hk40 (by decide)), cl_nI hk40 (by decide), g1, g2, g3, e1, cs, if_neg k1, if_neg (nI_ge hk (show (TL (Sx tk) (ptf xs ys)).length < 2 ^ 31 by omega)), if_neg (show ¬ (1 : Int32) = 0 by decide)]
    have lp : ∀ {p q : Nat}, p < 20 → q < 20 → _ := fun {p q} hp hq => acr_loop (xs := xs) (ys := ys) (tk := tk) (ord := ord) (pn := pn) (st := v.1) (row := v.2.1) (on := v.2.2.1) (fl := v.2.2.2.1) (fs := v.2.2.2.2.2.1) (li := v.2.2.2.2.2.2.2.1) (wa := v.2.2.2.2.2.2.2.2.1) (wn := v.2.2.2.2.2.2.2.2.2.1) (ri := v.2.2.2.2.2.2.2.2.2.2.1) (rn := v.2.2.2.2.2.2.2.2.2.2.2) (kn := kn') hM h2 (i := k) (p := p) (q := q) hk40 hp hq 600 0 (by omega) (Nat.zero_le _)
    rw [nI_0] at lp
    generalize (TL (Sx tk) (ptf xs ys)).getD k (0, 0, 0) = t at *
    by_cases y1 : y < 0
    · generalize f_N_across_L99 tk xs ys 600 = gN
      generalize f_F_across_L52 xs ys ord pn 600 = gF
      rw [if_pos y1, if_pos y1]
      exact ⟨_, _, _, _, _, _, Eq.refl _, Eq.refl _, fun _ => ⟨rfl, h2⟩⟩
    · rw [if_neg y1, if_neg y1]
      by_cases y2 : y ≤ 2
      · rw [if_pos y2, if_pos y2]
        rcases k012 y1 y2 with rfl | rfl | rfl
        · obtain ⟨r, l1, l2⟩ := lp hb hc
          rw [c1]
          dsimp only
          rw [shl_nI ha, edge_bits ha hb hc d1 d3, l1]
          simp only [if_pos (Eq.refl (0 : Int32)), l2]
          exact ⟨_, _, _, _, _, _, Eq.refl _, Eq.refl _, fun _ => ⟨rfl, h2⟩⟩
        · obtain ⟨r, l1, l2⟩ := lp hc ha
          rw [c2]
          dsimp only
          rw [shl_nI hb, ← bit3_r, edge_bits hb hc ha d2 (fun h => d1 h.symm), l1]
          simp only [if_neg (show ¬ (1 : Int32) = 0 by decide), if_pos (Eq.refl (1 : Int32)), l2]
          exact ⟨_, _, _, _, _, _, Eq.refl _, Eq.refl _, fun _ => ⟨rfl, h2⟩⟩
        · obtain ⟨r, l1, l2⟩ := lp ha hb
          rw [c3]
          dsimp only
          rw [shl_nI hc, bit3_r t.2.2 t.1 t.2.1, edge_bits hc ha hb (fun h => d3 h.symm) (fun h => d2 h.symm), l1]
          simp only [if_neg (show ¬ (2 : Int32) = 0 by decide), if_neg (show ¬ (2 : Int32) = 1 by decide), l2]
          exact ⟨_, _, _, _, _, _, Eq.refl _, Eq.refl _, fun _ => ⟨rfl, h2⟩⟩
      · generalize f_N_across_L99 tk xs ys 600 = gN
        generalize f_F_across_L52 xs ys ord pn 600 = gF
        rw [if_neg y2, if_neg y2]
        exact ⟨_, _, _, _, _, _, Eq.refl _, Eq.refl _, fun _ => ⟨rfl, h2⟩⟩
  · generalize f_N_across_L99 tk xs ys 600 = gN
    generalize f_F_across_L52 xs ys ord pn 600 = gF
    rw [e1]
    dsimp only
    rw [if_pos (Eq.refl (0 : Int32))]
    refine ⟨-1, kn', nI (TL (Sx tk) (ptf xs ys)).length, na', nb', nc', Eq.refl _, ?_, fun _ => ⟨rfl, h2⟩⟩
    rcases k1 with k1 | ⟨k1, k2⟩
    · rw [if_pos k1]
    · rw [if_neg k1, if_pos (by rw [← hM.1]; exact k2)]
end Q
