/-! neighbours, class and reference alike. -/
section X
variable {xs ys tk ord row ke fs li wa ri na nb nc : Nat → Int32} {st pn on fl mn wn rn kn ct : Int32} {od : List Nat} {v : Int32 × (Nat → Int32) × Int32 × Int32 × (Nat → Int32) × (Nat → Int32) × Int32 × (Nat → Int32) × (Nat → Int32) × Int32 × (Nat → Int32) × Int32}
theorem circ_same {pt : Nat → Int × Int} {x y z w : Nat} (h1 : Emp pt od x y z) (h2 : Emp pt od x y w) {d : Nat} (h : inc (pt x) (pt y) (pt w) (pt d) = 0) : inc (pt x) (pt y) (pt z) (pt d) = 0 := by
  have k1 := h2.2.2.2.2 z h1.2.2.1
  have k2 := h1.2.2.2.2 w h2.2.2.1
  rw [inc_end] at k2
  have e : inc (pt x) (pt y) (pt w) (pt z) = 0 := by omega
  exact sgn_z (same_circle (Int.ne_of_gt h1.2.2.2.1) (inc_a (pt x) (pt y) (pt w)) (inc_b (pt x) (pt y) (pt w)) e (pt d)) h2.2.2.2.1 h
theorem Emp_rot {pt : Nat → Int × Int} {a b c : Nat} (h : Emp pt od a b c) : Emp pt od b c a := ⟨h.2.1, h.2.2.1, h.1, by rw [ori_rot]; exact h.2.2.2.1, fun d hd => by rw [inc_rot]; exact h.2.2.2.2 d hd⟩
theorem edge_third {pt : Nat → Int × Int} {u : Nat × Nat × Nat} {p q : Nat} (h : Emp pt od u.1 u.2.1 u.2.2) (hpq : (p = u.1 ∧ q = u.2.1) ∨ (p = u.2.1 ∧ q = u.2.2) ∨ (p = u.2.2 ∧ q = u.1)) : ∃ w, Emp pt od p q w ∧ ∀ d, inc (pt p) (pt q) (pt w) d = inc (pt u.1) (pt u.2.1) (pt u.2.2) d := by
  rcases hpq with ⟨e1, e2⟩ | ⟨e1, e2⟩ | ⟨e1, e2⟩
  · rw [e1, e2]; exact ⟨u.2.2, h, fun d => rfl⟩
  · rw [e1, e2]; exact ⟨u.1, Emp_rot h, fun d => inc_rot _ _ _ _⟩
  · rw [e1, e2]; exact ⟨u.2.1, Emp_rot (Emp_rot h), fun d => by rw [inc_rot, inc_rot]⟩
theorem nbr_tedge (hI : PI xs ys tk) (hO : OI xs ys tk ord pn od) (s b : Nat) : (∃ u ∈ TL (Sx tk) (ptf xs ys), tedge xs ys tk u s b) ↔ nbr (ptf xs ys) od s b := by
  have hS : ∀ i, Sx tk i ↔ i ∈ od := fun i => (hO.2.2.2 i).symm
  constructor
  · rintro ⟨u, hu, p, q, hpq, hnb, h⟩
    have hE := isT_Emp hS ((TL_mem hI.2.2.2.1).mp hu)
    obtain ⟨w, hw, hinc⟩ := edge_third hE hpq
    have hF : FE (ptf xs ys) od p q w := by
      refine ⟨hw, fun d hd z => ?_⟩
      rcases Int.lt_or_le (ori (ptf xs ys p) (ptf xs ys q) (ptf xs ys d)) 0 with k | k
      · exfalso
        refine hnb d ⟨(hS d).mpr hd, fun e => ?_, fun e => ?_, k, by rw [← hinc]; exact z⟩
        · rw [e, ori_aba] at k; omega
        · rw [e, ori_abb] at k; omega
      · exact k
    rcases h with ⟨e1, e2⟩ | ⟨e1, e2⟩
    · rw [← e1, e2]; exact Or.inl ⟨w, hF⟩
    · rw [← e1, e2]; exact Or.inr ⟨w, hF⟩
  · have main : ∀ x y z, FE (ptf xs ys) od x y z → ∃ u ∈ TL (Sx tk) (ptf xs ys), ((x = u.1 ∧ y = u.2.1) ∨ (x = u.2.1 ∧ y = u.2.2) ∨ (x = u.2.2 ∧ y = u.1)) ∧ ∀ j, ¬ badd xs ys tk u x y j := by
      intro x y z hF
      obtain ⟨u, hu, h⟩ := fe_TL hI hO hF
      have hpq : (x = u.1 ∧ y = u.2.1) ∨ (x = u.2.1 ∧ y = u.2.2) ∨ (x = u.2.2 ∧ y = u.1) := by
        rcases h with h | h | h
        · exact Or.inl ⟨congrArg Prod.fst h, congrArg Prod.snd h⟩
        · exact Or.inr (Or.inl ⟨congrArg Prod.fst h, congrArg Prod.snd h⟩)
        · exact Or.inr (Or.inr ⟨congrArg Prod.fst h, congrArg Prod.snd h⟩)
      refine ⟨u, hu, hpq, fun j hj => ?_⟩
      have hE := isT_Emp hS ((TL_mem hI.2.2.2.1).mp hu)
      obtain ⟨w, hw, hinc⟩ := edge_third hE hpq
      have := hF.2 j ((hS j).mp hj.1) (circ_same hF.1 hw (by rw [hinc]; exact hj.2.2.2.2))
      have := hj.2.2.2.1
      omega
    rintro (⟨z, hF⟩ | ⟨z, hF⟩)
    · obtain ⟨u, hu, h1, h2⟩ := main _ _ _ hF
      exact ⟨u, hu, s, b, h1, h2, Or.inl ⟨rfl, rfl⟩⟩
    · obtain ⟨u, hu, h1, h2⟩ := main _ _ _ hF
      exact ⟨u, hu, b, s, h1, h2, Or.inr ⟨rfl, rfl⟩⟩
theorem lnb_flat (hO : OI xs ys tk ord pn od) {s : Nat} (hs : tk s ≠ 0) (b : Nat) : (isLo xs ys tk s b ∨ isHi xs ys tk s b) ↔ lnb od s b := by
  have pw : ∀ {i j : Nat}, i < j → j < od.length → lex (ptf xs ys (od.getD i 0)) (ptf xs ys (od.getD j 0)) := fun h1 h2 => pw_get (R := fun a b => lex (ptf xs ys a) (ptf xs ys b)) hO.2.2.1 h1 h2
  have mt : ∀ {i : Nat}, i < od.length → tk (od.getD i 0) ≠ 0 := fun h => (hO.2.2.2 _).mp (getD_mem h)
  obtain ⟨i, hi, rfl⟩ := od_ix ((hO.2.2.2 s).mpr hs)
  constructor
  · rintro (⟨h1, h2, h3⟩ | ⟨h1, h2, h3⟩)
    · obtain ⟨m, hm, rfl⟩ := od_ix ((hO.2.2.2 b).mpr h1)
      have hmi : m < i := by
        rcases Nat.lt_trichotomy m i with q | q | q
        · exact q
        · rw [q] at h2; exact absurd h2 lex_ir
        · exact absurd h2 (lex_asym (pw q hm))
      have e : m + 1 = i := by
        rcases Nat.lt_or_ge (m + 1) i with q | q
        · exfalso
          have a1 := pw (show m < m + 1 by omega) (show m + 1 < od.length by omega)
          rcases h3 _ (mt (show m + 1 < od.length by omega)) (pw q hi) with k | k
          · rw [k] at a1; exact lex_ir a1
          · exact lex_asym a1 k
        · omega
      exact ⟨i, by omega, hi, Or.inr ⟨rfl, by rw [show i - 1 = m by omega]⟩⟩
    · obtain ⟨m, hm, rfl⟩ := od_ix ((hO.2.2.2 b).mpr h1)
      have hmi : i < m := by
        rcases Nat.lt_trichotomy m i with q | q | q
        · exact absurd h2 (lex_asym (pw q hi))
        · rw [q] at h2; exact absurd h2 lex_ir
        · exact q
      have e : i + 1 = m := by
        rcases Nat.lt_or_ge (i + 1) m with q | q
        · exfalso
          have a1 := pw q hm
          rcases h3 _ (mt (show i + 1 < od.length by omega)) (pw (show i < i + 1 by omega) (by omega)) with k | k
          · rw [k] at a1; exact lex_ir a1
          · exact lex_asym a1 k
        · omega
      exact ⟨m, by omega, hm, Or.inl ⟨by rw [show m - 1 = i by omega], rfl⟩⟩
  · rintro ⟨m, m0, hm, ⟨e1, e2⟩ | ⟨e1, e2⟩⟩
    · have hnd := pw_nodup hO.2.2.1
      have ei : i = m - 1 := Classical.byContradiction (fun q => nd_ne hnd q hi (by omega) e1)
      rw [e2]
      refine Or.inr ⟨mt hm, pw (by omega) hm, fun j hj hl => ?_⟩
      obtain ⟨k, hk, rfl⟩ := od_ix ((hO.2.2.2 j).mpr hj)
      rcases Nat.lt_trichotomy k m with q | q | q
      · exfalso
        rcases Nat.lt_or_eq_of_le (show k ≤ i by omega) with r | r
        · exact lex_asym hl (pw r hi)
        · rw [r] at hl; exact lex_ir hl
      · exact Or.inl (by rw [q])
      · exact Or.inr (pw q hk)
    · have hnd := pw_nodup hO.2.2.1
      have ei : i = m := Classical.byContradiction (fun q => nd_ne hnd q hi hm e1)
      rw [e2]
      refine Or.inl ⟨mt (by omega), pw (by omega) hi, fun j hj hl => ?_⟩
      obtain ⟨k, hk, rfl⟩ := od_ix ((hO.2.2.2 j).mpr hj)
      rcases Nat.lt_trichotomy k (m - 1) with q | q | q
      · exact Or.inr (pw q (by omega))
      · exact Or.inl (by rw [q])
      · exfalso
        rcases Nat.lt_or_eq_of_le (show i ≤ k by omega) with r | r
        · exact lex_asym hl (pw r hk)
        · rw [r] at hl; exact lex_ir hl
theorem op_neighbours (hI : PI xs ys tk) (hO : OI xs ys tk ord pn od) (hN : NI xs ys tk kn ct na nb nc) (hR : f_F_refresh st xs ys ord pn row on fl ke fs mn li wa wn ri rn = some v) (hT : ST xs ys tk od v.2.1 v.2.2.2.2.1 v.2.2.2.2.2.1 v.2.2.2.2.2.2.2.1 v.2.2.1 v.2.2.2.2.2.2.1) (x : Int32) :
    ∃ (r kn' ct' : Int32) (na' nb' nc' : Nat → Int32), (f_F_neighbours st xs ys tk ord pn row on fl ke fs mn li wa wn ri rn x = some (r, v) ∨ f_F_neighbours st xs ys tk ord pn row on fl ke fs mn li wa wn ri rn x = some (r, st, row, on, fl, ke, fs, mn, li, wa, wn, ri, rn)) ∧ f_N_neighbours tk xs ys kn ct na nb nc x = some (r, kn', ct', na', nb', nc') ∧ NI xs ys tk kn' ct' na' nb' nc' := by
  unfold f_F_neighbours f_N_neighbours
  rw [N_is]
  rcases has_cases tk x with ⟨s, hs, rfl, hts, e⟩ | ⟨e, -⟩
  · obtain ⟨kn', na', nb', nc', ew, h1, h2⟩ := s_work hI hN
    rw [e, hR]
    dsimp only [Option.bind]
    rw [if_neg (show ¬ (1 : Int32) = 0 by decide), if_neg (show ¬ (1 : Int32) = 0 by decide), ew]
    dsimp only
    obtain ⟨B, -, -, -, -, hfl, hnf⟩ := hT
    have hlink : f_M_linkedTo v.2.2.2.2.2.2.2.1 (nI s) = some (v.2.2.2.2.2.2.2.1 s) := by
      unfold f_M_linkedTo
      rw [if_pos (ix_nI hs (by decide)), cl_nI hs (by decide)]
    rw [hlink]
    dsimp only
    by_cases hf : flatL (ptf xs ys) od
    · have hT0 := flat_TL hI hO hf
      obtain ⟨M, f1, hM, hb⟩ := flat_loop hI.2.2.2.1 (od_tri hO) hs 600 0 (-1) (-1) (by omega) (by omega) (Or.inl ⟨rfl, fun j hj => absurd hj (Nat.not_lt_zero _)⟩) (Or.inl ⟨rfl, fun j hj => absurd hj (Nat.not_lt_zero _)⟩)
      rw [nI_0] at f1
      have f1' : f_N_flatNeighbours tk xs ys (nI s) = some (nI M) := f1
      have hct : nI (TL (Sx tk) (ptf xs ys)).length = 0 := by rw [hT0]; exact nI_0
      obtain ⟨G, g1, g2⟩ := hfl hf
      have eM : G s = M := bits_eq (g1 s hs).2 hM (fun b hb' => by rw [g2 s b hs hb', hb b]; exact (lnb_flat hO hts b).symm)
      rw [if_pos hct, f1', (g1 s hs).1, eM]
      exact ⟨_, _, _, _, _, _, Or.inl (Eq.refl _), Eq.refl _, fun _ => ⟨rfl, h2⟩⟩
    · have hT0 := nf_T0 hI hO hf
      have h40 := TL_40 (PI_dist hI) hI.2.2.2.1
      have hpos : 0 < (TL (Sx tk) (ptf xs ys)).length := List.length_pos_iff.mpr hT0
      obtain ⟨M, f1, hM, hb⟩ := nb_loop (kn := kn') hI hs h2 600 0 0 (by omega) (Nat.zero_le _) (by decide) (fun b => by
        rw [Nat.zero_testBit]
        exact ⟨fun q => (by cases q), fun ⟨j, hj, _⟩ => absurd hj (Nat.not_lt_zero _)⟩)
      rw [nI_0] at f1
      obtain ⟨G, g1, g2⟩ := hnf hf
      have eM : G s = M := bits_eq (g1 s hs).2 hM (fun b hb' => by rw [g2 s b hs hb', hb b]; exact (nbr_tedge hI hO s b).symm)
      rw [if_neg (nI_ne0 hpos (by omega)), f1, (g1 s hs).1, eM]
      exact ⟨_, _, _, _, _, _, Or.inl (Eq.refl _), Eq.refl _, fun _ => ⟨rfl, h2⟩⟩
  · generalize f_N_neighbours_L31 tk xs ys 600 = gN
    rw [e]
    dsimp only [Option.bind]
    rw [if_pos (Eq.refl (0 : Int32)), if_pos (Eq.refl (0 : Int32))]
    exact ⟨_, _, _, _, _, _, Or.inr (Eq.refl _), Eq.refl _, hN⟩
end X
