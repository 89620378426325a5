/-! Queries on triangles, given what the mesh holds. -/
def key3 (t : Nat × Nat × Nat) : Nat := t.1 * 1024 + t.2.1 * 32 + t.2.2
/-- the mesh's keys are the list -/
def MI (l : List (Nat × Nat × Nat)) (ke : Nat → Int32) (mn : Int32) : Prop := mn = nI l.length ∧ l.length ≤ 35 ∧ (∀ t ∈ l, t.1 < 20 ∧ t.2.1 < 20 ∧ t.2.2 < 20) ∧ ∀ k, k < l.length → ke k = nI (key3 (l.getD k (0, 0, 0)))
theorem getD_mem3 {l : List (Nat × Nat × Nat)} {k : Nat} (h : k < l.length) : l.getD k (0, 0, 0) ∈ l := by
  rw [List.getD_eq_getElem?_getD, List.getElem?_eq_getElem h]
  exact List.getElem_mem h
theorem s_corner {l : List (Nat × Nat × Nat)} {ke : Nat → Int32} {mn : Int32} (hM : MI l ke mn) {k : Nat} (hk : k < l.length) :
    f_M_corner ke (nI k) 0 = some (nI (l.getD k (0, 0, 0)).1) ∧ f_M_corner ke (nI k) 1 = some (nI (l.getD k (0, 0, 0)).2.1) ∧ f_M_corner ke (nI k) 2 = some (nI (l.getD k (0, 0, 0)).2.2) := by
  obtain ⟨-, h35, h20, hke⟩ := hM
  have hb := h20 _ (getD_mem3 hk)
  unfold f_M_corner
  rw [if_pos (ix_nI (show k < 35 by omega) (by decide)), cl_nI (show k < 35 by omega) (by decide), hke k hk, if_pos (ix_nI (show k < 35 by omega) (by decide)), if_pos (ix_nI (show k < 35 by omega) (by decide))]
  generalize l.getD k (0, 0, 0) = t at hb ⊢
  obtain ⟨a, b, c⟩ := t
  dsimp only at hb ⊢
  unfold key3
  dsimp only
  have hn : a * 1024 + b * 32 + c < 2 ^ 31 := by omega
  refine ⟨?_, ?_, ?_⟩
  · rw [pk_shrN hn _ 10 (by decide), pk_andN (by omega) 5 (by decide)]
    congr 2
    omega
  · rw [pk_shrN hn _ 5 (by decide), pk_andN (by omega) 5 (by decide)]
    congr 2
    omega
  · rw [pk_shrN hn _ 0 (by decide), pk_andN (by omega) 5 (by decide)]
    congr 2
    omega
theorem mhas_cases {l : List (Nat × Nat × Nat)} {ke : Nat → Int32} {mn : Int32} (hM : MI l ke mn) (x : Int32) : (∃ k, k < l.length ∧ x = nI k ∧ f_M_has mn x = some 1 ∧ ¬ x < 0 ∧ ¬ mn ≤ x) ∨ (f_M_has mn x = some 0 ∧ (x < 0 ∨ (¬ x < 0 ∧ mn ≤ x))) := by
  obtain ⟨h1, h2, -, -⟩ := hM
  unfold f_M_has
  rw [h1]
  rcases pk_ix x (n := l.length) (by omega) with h | h | ⟨j, hj, rfl⟩
  · rw [if_pos h]; exact Or.inr ⟨rfl, Or.inl h⟩
  · rw [if_pos h]
    by_cases h0 : x < 0
    · rw [if_pos h0]; exact Or.inr ⟨rfl, Or.inl h0⟩
    · rw [if_neg h0]; exact Or.inr ⟨rfl, Or.inr ⟨h0, h⟩⟩
  · rw [if_neg (nI_pos (by omega)), if_neg (nI_ge hj (by omega))]
    exact Or.inl ⟨j, hj, rfl, rfl, nI_pos (by omega), nI_ge hj (by omega)⟩
theorem not_le32 {x y : Int32} : ¬ y ≤ x ↔ x < y := by
  rw [Int32.le_iff_toInt_le, Int32.lt_iff_toInt_lt]; omega
section Q
variable {xs ys tk ord row ke fs li wa ri na nb nc : Nat → Int32} {st pn on fl mn wn rn kn ct : Int32} {v : Int32 × (Nat → Int32) × Int32 × Int32 × (Nat → Int32) × (Nat → Int32) × Int32 × (Nat → Int32) × (Nat → Int32) × Int32 × (Nat → Int32) × Int32}
theorem op_triangles (hI : PI xs ys tk) (hN : NI xs ys tk kn ct na nb nc) (hR : f_F_refresh st xs ys ord pn row on fl ke fs mn li wa wn ri rn = some v) (hM : MI (TL (Sx tk) (ptf xs ys)) v.2.2.2.2.1 v.2.2.2.2.2.2.1) :
    ∃ (r kn' ct' : Int32) (na' nb' nc' : Nat → Int32), f_F_triangles st xs ys ord pn row on fl ke fs mn li wa wn ri rn = some (r, v) ∧ f_N_triangles tk xs ys kn ct na nb nc = some (r, kn', ct', na', nb', nc') ∧ NI xs ys tk kn' ct' na' nb' nc' := by
  obtain ⟨kn', na', nb', nc', e, h1, h2⟩ := s_work hI hN
  unfold f_F_triangles f_N_triangles
  rw [hR, e]
  refine ⟨nI (TL (Sx tk) (ptf xs ys)).length, kn', nI (TL (Sx tk) (ptf xs ys)).length, na', nb', nc', ?_, rfl, fun _ => ⟨rfl, h2⟩⟩
  have : v.2.2.2.2.2.2.1 = nI (TL (Sx tk) (ptf xs ys)).length := hM.1
  dsimp only [Option.bind, f_M_size]
  rw [this]
  conv => rhs; rw [← this]
  rw [← this]
theorem op_triangle (hI : PI xs ys tk) (hN : NI xs ys tk kn ct na nb nc) (hR : f_F_refresh st xs ys ord pn row on fl ke fs mn li wa wn ri rn = some v) (hM : MI (TL (Sx tk) (ptf xs ys)) v.2.2.2.2.1 v.2.2.2.2.2.2.1) (x : Int32) :
    ∃ (r kn' ct' : Int32) (na' nb' nc' : Nat → Int32), f_F_triangle st xs ys ord pn row on fl ke fs mn li wa wn ri rn x = some (r, v) ∧ f_N_triangle tk xs ys kn ct na nb nc x = some (r, kn', ct', na', nb', nc') ∧ NI xs ys tk kn' ct' na' nb' nc' := by
  obtain ⟨kn', na', nb', nc', e, h1, h2⟩ := s_work hI hN
  unfold f_F_triangle f_N_triangle
  rw [hR, e]
  dsimp only [Option.bind]
  have hlen : (TL (Sx tk) (ptf xs ys)).length ≤ 35 := hM.2.1
  rcases mhas_cases hM x with ⟨k, hk, rfl, e1, k1, k2⟩ | ⟨e1, k1⟩
  · obtain ⟨c1, c2, c3⟩ := s_corner hM hk
    rw [e1, if_neg k1]
    dsimp only
    rw [if_neg (show ¬ (1 : Int32) = 0 by decide), c1, c2, c3]
    dsimp only
    rw [if_pos (nI_lt hk (by omega))]
    simp only [if_pos (ix_nI (show k < 40 by omega) (by decide)), cl_nI (show k < 40 by omega) (by decide)]
    obtain ⟨g1, g2, g3⟩ := h2 k hk
    rw [g1, g2, g3]
    exact ⟨_, _, _, _, _, _, rfl, rfl, fun _ => ⟨rfl, h2⟩⟩
  · rw [e1]
    dsimp only
    rw [if_pos rfl]
    refine ⟨-1, kn', nI (TL (Sx tk) (ptf xs ys)).length, na', nb', nc', rfl, ?_, fun _ => ⟨rfl, h2⟩⟩
    rcases k1 with k1 | ⟨k1, k2⟩
    · rw [if_pos k1]
    · rw [if_neg k1, if_neg (fun h => not_le32.mpr h (by rw [← hM.1]; exact k2))]
end Q
