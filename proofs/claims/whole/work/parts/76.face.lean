/-! addTriangle and addFace: the face's triangles go to their places, its edges are linked, those behind awaited. -/
section L
variable {α : Type} {d : α} {l : List α}
theorem gD_mem {k : Nat} (h : k < l.length) : l.getD k d ∈ l := by
  rw [List.getD_eq_getElem?_getD, List.getElem?_eq_getElem h]
  exact List.getElem_mem h
theorem gD_ix {x : α} (h : x ∈ l) : ∃ i, i < l.length ∧ l.getD i d = x := by
  obtain ⟨i, hi, e⟩ := List.mem_iff_getElem.mp h
  exact ⟨i, hi, by rw [List.getD_eq_getElem?_getD, List.getElem?_eq_getElem hi]; exact e⟩
theorem gD_pw {r : α → α → Prop} (h : l.Pairwise r) {i j : Nat} (hij : i < j) (hj : j < l.length) : r (l.getD i d) (l.getD j d) := by
  have := List.pairwise_iff_getElem.mp h i j (by omega) hj hij
  rw [List.getD_eq_getElem?_getD, List.getD_eq_getElem?_getD, List.getElem?_eq_getElem (by omega), List.getElem?_eq_getElem hj]
  exact this
theorem gD_drop {q : Nat} {b : α} (h : b ∈ l.drop q) : ∃ k, q ≤ k ∧ k < l.length ∧ l.getD k d = b := by
  obtain ⟨i, hi, e⟩ := List.mem_iff_getElem.mp h
  rw [List.length_drop] at hi
  rw [List.getElem_drop] at e
  refine ⟨q + i, by omega, by omega, ?_⟩
  rw [List.getD_eq_getElem?_getD, List.getElem?_eq_getElem (by omega)]
  exact e
theorem gD_take {q : Nat} {b : α} (h : b ∈ l.take q) : ∃ k, k < q ∧ k < l.length ∧ l.getD k d = b := by
  obtain ⟨i, hi, e⟩ := List.mem_iff_getElem.mp h
  rw [List.length_take] at hi
  rw [List.getElem_take] at e
  refine ⟨i, by omega, by omega, ?_⟩
  rw [List.getD_eq_getElem?_getD, List.getElem?_eq_getElem (by omega)]
  exact e
theorem gD_ins (s : α) (q k : Nat) (hq : q ≤ l.length) : (l.take q ++ s :: l.drop q).getD k d = if k < q then l.getD k d else if k = q then s else l.getD (k - 1) d := by
  have hl : (l.take q).length = q := by rw [List.length_take]; omega
  simp only [List.getD_eq_getElem?_getD]
  rw [List.getElem?_append, hl]
  by_cases h1 : k < q
  · rw [if_pos h1, if_pos h1, List.getElem?_take, if_pos h1]
  · rw [if_neg h1, if_neg h1]
    by_cases h2 : k = q
    · subst h2
      rw [if_pos rfl, Nat.sub_self]
      rfl
    · rw [if_neg h2, show k - q = (k - q - 1) + 1 by omega, List.getElem?_cons_succ, List.getElem?_drop, show q + (k - q - 1) = k - 1 by omega]
theorem mem_ins (s x : α) (q : Nat) : x ∈ l.take q ++ s :: l.drop q ↔ x = s ∨ x ∈ l := by
  rw [List.mem_append, List.mem_cons]
  have : x ∈ l ↔ x ∈ l.take q ∨ x ∈ l.drop q := by
    conv => lhs; rw [← List.take_append_drop q l, List.mem_append]
  rw [this]
  constructor
  · rintro (h | h | h)
    · exact Or.inr (Or.inl h)
    · exact Or.inl h
    · exact Or.inr (Or.inr h)
  · rintro (h | h | h)
    · exact Or.inr (Or.inl h)
    · exact Or.inl h
    · exact Or.inr (Or.inr h)
end L
def t20 (t : Nat × Nat × Nat) : Prop := t.1 < 20 ∧ t.2.1 < 20 ∧ t.2.2 < 20
theorem key3_inj {s t : Nat × Nat × Nat} (hs : t20 s) (ht : t20 t) (h : key3 s = key3 t) : s = t := by
  obtain ⟨a, b, c⟩ := s
  obtain ⟨a', b', c'⟩ := t
  unfold t20 at hs ht
  unfold key3 at h
  dsimp only at hs ht h
  obtain ⟨e1, e2, e3⟩ : a = a' ∧ b = b' ∧ c = c' := by omega
  rw [e1, e2, e3]
theorem key3_lt {t : Nat × Nat × Nat} (h : t20 t) : key3 t < 2 ^ 20 := by
  unfold t20 at h
  unfold key3
  omega
theorem or5 {n c : Nat} (hn : n < 2 ^ 20) (hc : c < 32) : (nI n <<< ((5 : Int32) &&& 31)) ||| nI c = nI (n * 32 + c) := by
  rw [pk_shlN _ 5 (by decide) (by omega), or_nI]
  congr 1
  have := Nat.two_pow_add_eq_or_of_lt (i := 5) (b := c) (by omega) n
  rw [Nat.mul_comm n (2 ^ 5), ← this]
/-- the rows hold a sorted list of triangles with a number for each -/
def KI (c : Nat × Nat × Nat → Nat) (KL : List (Nat × Nat × Nat)) (ke fs : Nat → Int32) : Prop := KL.Pairwise (fun s t => key3 s < key3 t) ∧ ∀ k, k < KL.length → ke k = nI (key3 (KL.getD k (0, 0, 0))) ∧ fs k = nI (c (KL.getD k (0, 0, 0)))
theorem tri_add {c : Nat × Nat × Nat → Nat} {KL : List (Nat × Nat × Nat)} {ke fs : Nat → Int32} (hK : KI c KL ke fs) (h20 : ∀ t ∈ KL, t20 t) (hlen : KL.length < 35) {t : Nat × Nat × Nat} (ht : t20 t) (hn : t ∉ KL) :
    ∃ (ke' fs' : Nat → Int32) (KL' : List (Nat × Nat × Nat)), f_M_addTriangle ke fs (nI KL.length) (nI (c t)) (nI t.1) (nI t.2.1) (nI t.2.2) = some (ke', fs', nI KL'.length) ∧ KI c KL' ke' fs' ∧ ∀ u, u ∈ KL' ↔ u = t ∨ u ∈ KL := by
  have e35 : (35 : Int32) = nI 35 := by decide
  have hkey : ((((nI t.1) <<< ((5 : Int32) &&& 31)) ||| nI t.2.1) <<< ((5 : Int32) &&& 31)) ||| nI t.2.2 = nI (key3 t) := by
    have h := ht
    unfold t20 at h
    rw [or5 (by omega) (by omega), or5 (by omega) (by omega)]
    unfold key3
    congr 1
    omega
  obtain ⟨q, ke', fs', e, hq, h1, h2, h3, h4, h5⟩ := tri_put (ke := ke) (fs := fs) (rn := nI (c t)) (mn := nI KL.length) (K := key3 t) (L := KL.length) (g := fun k => key3 (KL.getD k (0, 0, 0))) (h := fun k => c (KL.getD k (0, 0, 0))) hlen (fun k hk => key3_lt (h20 _ (gD_mem hk))) (key3_lt ht) 600 KL.length ke fs (by omega) (Nat.le_refl _) hK.2 (fun k a b => by omega) (fun k a b => by omega)
  have hl : (KL.take q ++ t :: KL.drop q).length = KL.length + 1 := by simp; omega
  refine ⟨ke', fs', KL.take q ++ t :: KL.drop q, ?_, ⟨?_, ?_⟩, fun u => mem_ins t u q⟩
  · unfold f_M_addTriangle
    rw [hkey, if_pos (show nI KL.length < (35 : Int32) by rw [e35]; exact nI_lt hlen (by omega)), e, hl, nI_1]
  · have hsp := hK.1
    rw [← List.take_append_drop q KL, List.pairwise_append] at hsp
    rw [List.pairwise_append, List.pairwise_cons]
    have lastk : ∀ k, k + 1 = q → key3 (KL.getD k (0, 0, 0)) < key3 t := by
      intro k hk
      have a1 := h5 k hk
      have mk : KL.getD k (0, 0, 0) ∈ KL := gD_mem (by omega)
      rcases Nat.lt_or_eq_of_le a1 with z | z
      · exact z
      · exact absurd (key3_inj (h20 _ mk) ht z ▸ mk) hn
    refine ⟨hsp.1, ⟨?_, hsp.2.1⟩, ?_⟩
    · intro y hy
      obtain ⟨k, k1, k2, rfl⟩ := gD_drop (d := (0, 0, 0)) hy
      exact h4 k k1 k2
    · intro x hx y hy
      rcases List.mem_cons.mp hy with e2 | e2
      · rw [e2]
        obtain ⟨k, k1, k2, rfl⟩ := gD_take (d := (0, 0, 0)) hx
        by_cases z : k + 1 = q
        · exact lastk k z
        · exact Nat.lt_trans (gD_pw (d := (0, 0, 0)) hK.1 (i := k) (j := q - 1) (by omega) (by omega)) (lastk (q - 1) (by omega))
      · exact hsp.2.2 x hx y e2
  · intro k hk
    rw [hl] at hk
    rw [gD_ins t q k hq]
    split
    · exact h1 k (by assumption)
    · split
      · rename_i e2
        rw [e2]; exact h2
      · have := h3 (k - 1) (by omega) (by omega)
        rw [show k - 1 + 1 = k by omega] at this
        exact this
def fanT (R : List Nat) (i : Nat) : Nat × Nat × Nat := (R.getD 0 0, R.getD (i - 1) 0, R.getD i 0)
theorem fan_loop {P : Nat × Nat × Nat → Prop} {c : Nat × Nat × Nat → Nat} {R : List Nat} {ri li wa : Nat → Int32} {wn : Int32} {KL : List (Nat × Nat × Nat)} (hP20 : ∀ u, P u → t20 u) (hB : ∀ l : List (Nat × Nat × Nat), l.Nodup → (∀ u ∈ l, P u) → l.length ≤ 35) (hH : HL R ri) (hRl : R.length ≤ 20) (hnd : R.Nodup)
    (hc : ∀ j, 2 ≤ j → j < R.length → c (fanT R j) = R.length) (hP : ∀ j, 2 ≤ j → j < R.length → P (fanT R j)) (hPK : ∀ u ∈ KL, P u) (hnew : ∀ j, 2 ≤ j → j < R.length → fanT R j ∉ KL) :
    ∀ (n i : Nat) (ke fs : Nat → Int32) (KI' : List (Nat × Nat × Nat)), R.length - i < n → 2 ≤ i → i ≤ R.length → KI c KI' ke fs → (∀ u, u ∈ KI' ↔ u ∈ KL ∨ ∃ j, 2 ≤ j ∧ j < i ∧ u = fanT R j) →
    ∃ (ke' fs' : Nat → Int32) (KL' : List (Nat × Nat × Nat)), f_M_addFace_L2 ri (nI R.length) n ke fs (nI KI'.length) li wa wn (nI i) = f_M_addFace_L42 ri (nI R.length) 600 ke' fs' (nI KL'.length) li wa wn 0 ∧ KI c KL' ke' fs' ∧ ∀ u, u ∈ KL' ↔ u ∈ KL ∨ Fan R u := by
  intro n
  induction n with
  | zero => intro i ke fs KI' h; exact absurd h (Nat.not_lt_zero _)
  | succ n ih =>
    intro i ke fs KI' hn h2 hi hK hM
    rw [f_M_addFace_L2]
    by_cases e : i = R.length
    · rw [if_pos (show nI R.length ≤ nI i from nI_le (by omega) (by omega))]
      refine ⟨ke, fs, KI', Eq.refl _, hK, fun u => ?_⟩
      rw [hM u, e]
      exact Iff.rfl
    · have hi' : i < R.length := by omega
      have i0 : ix (0 : Int32) 20 = true := by rw [← nI_0]; exact ix_nI (by omega) (by decide)
      have c0 : (0 : Int32).toNatClampNeg = 0 := sb_cl0
      have e1 : nI i - 1 = nI (i - 1) := by
        cases i with
        | zero => omega
        | succ i => exact nI_pred i
      have PK : ∀ u ∈ KI', P u := by
        intro u hu
        rcases (hM u).mp hu with k | ⟨j, j1, j2, k⟩
        · exact hPK u k
        · rw [k]; exact hP j j1 (by omega)
      have nd : KI'.Nodup := List.Pairwise.imp (fun h e => by rw [e] at h; exact Nat.lt_irrefl _ h) hK.1
      have hnot : fanT R i ∉ KI' := by
        intro q
        rcases (hM _).mp q with k | ⟨j, j1, j2, k⟩
        · exact hnew i h2 hi' k
        · have := congrArg (fun z => z.2.2) k
          exact nd_ne hnd (show i ≠ j by omega) hi' (by omega) this
      have hlen : KI'.length < 35 := by
        have := hB (fanT R i :: KI') (List.nodup_cons.mpr ⟨hnot, nd⟩) (fun u hu => by
          rcases List.mem_cons.mp hu with k | k
          · rw [k]; exact hP i h2 hi'
          · exact PK u k)
        rw [List.length_cons] at this
        omega
      obtain ⟨ke1, fs1, KL1, f1, K1, M1⟩ := tri_add hK (fun u hu => hP20 u (PK u hu)) hlen (hP20 _ (hP i h2 hi')) hnot
      rw [hc i h2 hi'] at f1
      rw [if_neg (nI_ge hi' (by omega)), e1, if_pos i0, if_pos (ix_nI (show i - 1 < 20 by omega) (by decide)), if_pos (ix_nI (show i < 20 by omega) (by decide)), c0, cl_nI (show i - 1 < 20 by omega) (by decide), cl_nI (show i < 20 by omega) (by decide), hH 0 (by omega), hH (i - 1) (by omega), hH i hi']
      have f1' : f_M_addTriangle ke fs (nI KI'.length) (nI R.length) (nI (R.getD 0 0)) (nI (R.getD (i - 1) 0)) (nI (R.getD i 0)) = some (ke1, fs1, nI KL1.length) := f1
      rw [f1']
      dsimp only [Option.bind]
      rw [nI_1]
      refine ih (i + 1) ke1 fs1 KL1 (by omega) (by omega) (by omega) K1 (fun u => ?_)
      rw [M1 u, hM u]
      constructor
      · rintro (k | k | ⟨j, j1, j2, k⟩)
        · exact Or.inr ⟨i, h2, by omega, k⟩
        · exact Or.inl k
        · exact Or.inr ⟨j, j1, by omega, k⟩
      · rintro (k | ⟨j, j1, j2, k⟩)
        · exact Or.inr (Or.inl k)
        · by_cases z : j = i
          · rw [z] at k; exact Or.inl k
          · exact Or.inr (Or.inr ⟨j, j1, by omega, k⟩)
