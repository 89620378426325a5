/-! The reference's list of triangles: all that are, in the order of their corners. -/
noncomputable def trib (S : Nat → Prop) (pt : Nat → Int × Int) (t : Nat × Nat × Nat) : Bool := @decide (isT S pt t.1 t.2.1 t.2.2) (Classical.propDecidable _)
theorem trib_iff {S : Nat → Prop} {pt : Nat → Int × Int} {t : Nat × Nat × Nat} : trib S pt t = true ↔ isT S pt t.1 t.2.1 t.2.2 := by
  unfold trib
  exact @decide_eq_true_iff _ (Classical.propDecidable _)
theorem trib_f {S : Nat → Prop} {pt : Nat → Int × Int} {t : Nat × Nat × Nat} (h : ¬ isT S pt t.1 t.2.1 t.2.2) : trib S pt t = false := by
  cases e : trib S pt t
  · rfl
  · exact absurd (trib_iff.mp e) h
def sufC (a b c : Nat) : List (Nat × Nat × Nat) := (List.range' c (20 - c)).map (fun c => (a, b, c))
def sufB (a b : Nat) : List (Nat × Nat × Nat) := (List.range' b (20 - b)).flatMap (fun b => sufC a b 0)
def sufA (a : Nat) : List (Nat × Nat × Nat) := (List.range' a (20 - a)).flatMap (fun a => sufB a 0)
theorem sufC_s {a b c : Nat} (h : c < 20) : sufC a b c = (a, b, c) :: sufC a b (c + 1) := by
  unfold sufC
  rw [show 20 - c = (20 - (c + 1)) + 1 by omega, List.range'_succ]
  rfl
theorem sufC_e {a b : Nat} : sufC a b 20 = [] := rfl
theorem sufB_s {a b : Nat} (h : b < 20) : sufB a b = sufC a b 0 ++ sufB a (b + 1) := by
  unfold sufB
  rw [show 20 - b = (20 - (b + 1)) + 1 by omega, List.range'_succ, List.flatMap_cons]
theorem sufB_e {a : Nat} : sufB a 20 = [] := rfl
theorem sufA_s {a : Nat} (h : a < 20) : sufA a = sufB a 0 ++ sufA (a + 1) := by
  unfold sufA
  rw [show 20 - a = (20 - (a + 1)) + 1 by omega, List.range'_succ, List.flatMap_cons]
theorem sufA_e : sufA 20 = [] := rfl
noncomputable def TL (S : Nat → Prop) (pt : Nat → Int × Int) : List (Nat × Nat × Nat) := (sufA 0).filter (trib S pt)
def tkey (t : Nat × Nat × Nat) : Nat := 400 * t.1 + 20 * t.2.1 + t.2.2
theorem mem_sufC {a b c : Nat} {t : Nat × Nat × Nat} : t ∈ sufC a b c ↔ t.1 = a ∧ t.2.1 = b ∧ c ≤ t.2.2 ∧ t.2.2 < 20 := by
  obtain ⟨x, y, z⟩ := t
  unfold sufC
  rw [List.mem_map]
  constructor
  · rintro ⟨w, hw, e⟩
    rw [List.mem_range'_1] at hw
    obtain ⟨rfl, rfl, rfl⟩ : a = x ∧ b = y ∧ w = z := by
      have e1 := congrArg Prod.fst e
      have e2 := congrArg (fun q => q.2.1) e
      have e3 := congrArg (fun q => q.2.2) e
      exact ⟨e1, e2, e3⟩
    dsimp only
    omega
  · rintro ⟨h1, h2, h3, h4⟩
    dsimp only at h1 h2 h3 h4
    refine ⟨z, ?_, by rw [h1, h2]⟩
    rw [List.mem_range'_1]
    omega
theorem mem_sufB {a b : Nat} {t : Nat × Nat × Nat} : t ∈ sufB a b ↔ t.1 = a ∧ (b ≤ t.2.1 ∧ t.2.1 < 20) ∧ t.2.2 < 20 := by
  unfold sufB
  rw [List.mem_flatMap]
  constructor
  · rintro ⟨w, hw, h⟩
    rw [List.mem_range'_1] at hw
    rw [mem_sufC] at h
    omega
  · intro h
    refine ⟨t.2.1, ?_, mem_sufC.mpr ⟨h.1, rfl, Nat.zero_le _, h.2.2⟩⟩
    rw [List.mem_range'_1]
    omega
theorem mem_sufA {a : Nat} {t : Nat × Nat × Nat} : t ∈ sufA a ↔ (a ≤ t.1 ∧ t.1 < 20) ∧ t.2.1 < 20 ∧ t.2.2 < 20 := by
  unfold sufA
  rw [List.mem_flatMap]
  constructor
  · rintro ⟨w, hw, h⟩
    rw [List.mem_range'_1] at hw
    rw [mem_sufB] at h
    omega
  · intro h
    refine ⟨t.1, ?_, mem_sufB.mpr ⟨rfl, ⟨Nat.zero_le _, h.2.1⟩, h.2.2⟩⟩
    rw [List.mem_range'_1]
    omega
theorem sufC_lt (a b c : Nat) : (sufC a b c).Pairwise (fun s t => tkey s < tkey t) := by
  unfold sufC
  rw [List.pairwise_map]
  refine List.Pairwise.imp (fun h => ?_) (List.pairwise_lt_range' (s := c) (n := 20 - c))
  unfold tkey
  dsimp only
  omega
theorem sufB_lt (a b : Nat) : (sufB a b).Pairwise (fun s t => tkey s < tkey t) := by
  unfold sufB
  rw [List.pairwise_flatMap]
  refine ⟨fun w _ => sufC_lt a w 0, ?_⟩
  refine List.Pairwise.imp (fun h => ?_) (List.pairwise_lt_range' (s := b) (n := 20 - b))
  intro s hs t ht
  rw [mem_sufC] at hs ht
  unfold tkey
  omega
theorem sufA_lt (a : Nat) : (sufA a).Pairwise (fun s t => tkey s < tkey t) := by
  unfold sufA
  rw [List.pairwise_flatMap]
  refine ⟨fun w _ => sufB_lt w 0, ?_⟩
  refine List.Pairwise.imp (fun h => ?_) (List.pairwise_lt_range' (s := a) (n := 20 - a))
  intro s hs t ht
  rw [mem_sufB] at hs ht
  unfold tkey
  omega
theorem TL_lt (S : Nat → Prop) (pt : Nat → Int × Int) : (TL S pt).Pairwise (fun s t => tkey s < tkey t) := List.Pairwise.filter _ (sufA_lt 0)
theorem TL_mem {S : Nat → Prop} {pt : Nat → Int × Int} (h20 : ∀ i, S i → i < 20) {t : Nat × Nat × Nat} : t ∈ TL S pt ↔ isT S pt t.1 t.2.1 t.2.2 := by
  unfold TL
  rw [List.mem_filter, mem_sufA, trib_iff]
  refine ⟨fun h => h.2, fun h => ⟨⟨⟨Nat.zero_le _, h20 _ h.1⟩, h20 _ h.2.1, h20 _ h.2.2.1⟩, h⟩⟩
theorem TL_40 {S : Nat → Prop} {pt : Nat → Int × Int} (hd : ∀ i j, S i → S j → pt i = pt j → i = j) (h20 : ∀ i, S i → i < 20) : (TL S pt).length ≤ 40 :=
  tri_count hd h20 _ (List.Pairwise.imp (fun h e => by rw [e] at h; exact Nat.lt_irrefl _ h) (TL_lt S pt)) (fun _ ht => (TL_mem h20).mp ht)
/-- the three rows hold the list -/
def HT (l : List (Nat × Nat × Nat)) (na nb nc : Nat → Int32) : Prop := ∀ k, k < l.length → na k = nI (l.getD k (0, 0, 0)).1 ∧ nb k = nI (l.getD k (0, 0, 0)).2.1 ∧ nc k = nI (l.getD k (0, 0, 0)).2.2
theorem HT_add {l : List (Nat × Nat × Nat)} {na nb nc : Nat → Int32} {a b c : Nat} (h : HT l na nb nc) : HT (l ++ [(a, b, c)]) (upd na l.length (nI a)) (upd nb l.length (nI b)) (upd nc l.length (nI c)) := by
  intro k hk
  rw [List.length_append] at hk
  by_cases e : k = l.length
  · subst e
    rw [upd_s, upd_s, upd_s, List.getD_eq_getElem?_getD, List.getElem?_append_right (Nat.le_refl _), Nat.sub_self]
    exact ⟨rfl, rfl, rfl⟩
  · have hk2 : k < l.length := by simp at hk; omega
    rw [upd_n e, upd_n e, upd_n e, List.getD_eq_getElem?_getD, List.getElem?_append_left hk2, ← List.getD_eq_getElem?_getD]
    exact h k hk2
theorem ori_aab (a b : Int × Int) : ori a a b = 0 := by unfold ori; grind
theorem ori_abb (a b : Int × Int) : ori a b b = 0 := by unfold ori; grind
theorem ori_aba (a b : Int × Int) : ori a b a = 0 := by unfold ori; grind
section Work
variable {xs ys tk : Nat → Int32} {kn : Int32} {k20 : Int32 → Int32 → (Nat → Int32) → (Nat → Int32) → (Nat → Int32) → Int32 → Option (Int32 × Int32 × (Nat → Int32) × (Nat → Int32) × (Nat → Int32))} {k28 : Int32 → Int32 → (Nat → Int32) → (Nat → Int32) → (Nat → Int32) → Int32 → Int32 → Option (Int32 × Int32 × (Nat → Int32) × (Nat → Int32) × (Nat → Int32))}
theorem work_c (hI : PI xs ys tk) {a b : Nat} (ha : a < 20) (hb : b < 20) : ∀ (n c : Nat) (P : List (Nat × Nat × Nat)) (na nb nc : Nat → Int32), 20 - c < n → c ≤ 20 → (P ++ (sufC a b c).filter (trib (Sx tk) (ptf xs ys))).length ≤ 40 → HT P na nb nc →
    ∃ na' nb' nc', HT (P ++ (sufC a b c).filter (trib (Sx tk) (ptf xs ys))) na' nb' nc' ∧ f_N_work_L36 k20 k28 tk xs ys n kn (nI P.length) na nb nc (nI a) (nI b) (nI c) = k28 kn (nI (P ++ (sufC a b c).filter (trib (Sx tk) (ptf xs ys))).length) na' nb' nc' (nI a) (nI (b + 1)) := by
  intro n
  induction n with
  | zero => intro c P na nb nc h; exact absurd h (Nat.not_lt_zero _)
  | succ n ih =>
    intro c P na nb nc hn hc hlen hT
    rw [f_N_work_L36]
    by_cases e : c = 20
    · subst e
      rw [if_pos (ge20 rfl), nI_1]
      rw [sufC_e, List.filter_nil, List.append_nil]
      exact ⟨na, nb, nc, hT, rfl⟩
    · have hc : c < 20 := by omega
      rw [if_neg (lt20 hc), nI_1]
      rw [sufC_s hc] at hlen ⊢
      have skip : ¬ isT (Sx tk) (ptf xs ys) a b c → ∃ na' nb' nc', HT (P ++ ((a, b, c) :: sufC a b (c + 1)).filter (trib (Sx tk) (ptf xs ys))) na' nb' nc' ∧ f_N_work_L36 k20 k28 tk xs ys n kn (nI P.length) na nb nc (nI a) (nI b) (nI (c + 1)) = k28 kn (nI (P ++ ((a, b, c) :: sufC a b (c + 1)).filter (trib (Sx tk) (ptf xs ys))).length) na' nb' nc' (nI a) (nI (b + 1)) := by
        intro hno
        have e2 : ((a, b, c) :: sufC a b (c + 1)).filter (trib (Sx tk) (ptf xs ys)) = (sufC a b (c + 1)).filter (trib (Sx tk) (ptf xs ys)) := List.filter_cons_of_neg (by rw [trib_f hno]; decide)
        rw [e2] at hlen ⊢
        exact ih (c + 1) P na nb nc (by omega) (by omega) hlen hT
      by_cases h1 : a = b
      · rw [if_pos (by rw [h1])]
        exact skip (fun q => by have := q.2.2.2.1; rw [h1, ori_aab] at this; omega)
      rw [if_neg (nI_ne ha hb h1)]
      by_cases h2 : b = c
      · rw [if_pos (by rw [h2])]
        exact skip (fun q => by have := q.2.2.2.1; rw [h2, ori_abb] at this; omega)
      rw [if_neg (nI_ne hb hc h2)]
      by_cases h3 : a = c
      · rw [if_pos (by rw [h3])]
        exact skip (fun q => by have := q.2.2.2.1; rw [h3, ori_aba] at this; omega)
      rw [if_neg (nI_ne ha hc h3)]
      rcases s_isTri hI ha hb hc with ⟨e3, h4⟩ | ⟨e3, h4⟩
      · rw [e3]
        dsimp only [Option.bind]
        have e2 : ((a, b, c) :: sufC a b (c + 1)).filter (trib (Sx tk) (ptf xs ys)) = (a, b, c) :: (sufC a b (c + 1)).filter (trib (Sx tk) (ptf xs ys)) := List.filter_cons_of_pos (trib_iff.mpr h4)
        rw [e2] at hlen ⊢
        rw [List.length_append, List.length_cons] at hlen
        rw [if_neg (show ¬ (1 : Int32) = 0 by decide), if_pos (ix_nI (show P.length < 40 by omega) (by decide)), if_pos (ix_nI (show P.length < 40 by omega) (by decide)), if_pos (ix_nI (show P.length < 40 by omega) (by decide)), cl_nI (show P.length < 40 by omega) (by decide), nI_1]
        have hr := ih (c + 1) (P ++ [(a, b, c)]) (upd na P.length (nI a)) (upd nb P.length (nI b)) (upd nc P.length (nI c)) (by omega) (by omega) (by rw [List.append_assoc, List.length_append]; exact hlen) (HT_add hT)
        rw [List.append_assoc, List.length_append] at hr
        exact hr
      · rw [e3]
        dsimp only [Option.bind]
        rw [if_pos rfl]
        exact skip h4
theorem work_b (hI : PI xs ys tk) {a : Nat} (ha : a < 20) : ∀ (n b : Nat) (P : List (Nat × Nat × Nat)) (na nb nc : Nat → Int32), 20 - b < n → b ≤ 20 → (P ++ (sufB a b).filter (trib (Sx tk) (ptf xs ys))).length ≤ 40 → HT P na nb nc →
    ∃ na' nb' nc', HT (P ++ (sufB a b).filter (trib (Sx tk) (ptf xs ys))) na' nb' nc' ∧ f_N_work_L28 k20 tk xs ys n kn (nI P.length) na nb nc (nI a) (nI b) = k20 kn (nI (P ++ (sufB a b).filter (trib (Sx tk) (ptf xs ys))).length) na' nb' nc' (nI (a + 1)) := by
  intro n
  induction n with
  | zero => intro b P na nb nc h; exact absurd h (Nat.not_lt_zero _)
  | succ n ih =>
    intro b P na nb nc hn hb hlen hT
    rw [f_N_work_L28]
    by_cases e : b = 20
    · subst e
      rw [if_pos (ge20 rfl), nI_1]
      rw [sufB_e, List.filter_nil, List.append_nil]
      exact ⟨na, nb, nc, hT, rfl⟩
    · have hb : b < 20 := by omega
      rw [if_neg (lt20 hb)]
      rw [sufB_s hb, List.filter_append, ← List.append_assoc] at hlen ⊢
      obtain ⟨na1, nb1, nc1, hT1, e1⟩ := work_c (kn := kn) (k20 := k20) (k28 := fun n_kn n_ct n_a n_b n_c x1 x2 => f_N_work_L28 k20 tk xs ys n n_kn n_ct n_a n_b n_c x1 x2) hI ha hb 600 0 P na nb nc (by omega) (by omega) (by rw [List.length_append] at hlen; omega) hT
      rw [nI_0] at e1
      rw [e1]
      exact ih (b + 1) _ na1 nb1 nc1 (by omega) (by omega) hlen hT1
theorem work_a (hI : PI xs ys tk) : ∀ (n a : Nat) (P : List (Nat × Nat × Nat)) (na nb nc : Nat → Int32), 20 - a < n → a ≤ 20 → (P ++ (sufA a).filter (trib (Sx tk) (ptf xs ys))).length ≤ 40 → HT P na nb nc →
    ∃ na' nb' nc', HT (P ++ (sufA a).filter (trib (Sx tk) (ptf xs ys))) na' nb' nc' ∧ f_N_work_L20 tk xs ys n kn (nI P.length) na nb nc (nI a) = some (kn, nI (P ++ (sufA a).filter (trib (Sx tk) (ptf xs ys))).length, na', nb', nc') := by
  intro n
  induction n with
  | zero => intro a P na nb nc h; exact absurd h (Nat.not_lt_zero _)
  | succ n ih =>
    intro a P na nb nc hn ha hlen hT
    rw [f_N_work_L20]
    by_cases e : a = 20
    · subst e
      rw [if_pos (ge20 rfl)]
      rw [sufA_e, List.filter_nil, List.append_nil]
      exact ⟨na, nb, nc, hT, rfl⟩
    · have ha : a < 20 := by omega
      rw [if_neg (lt20 ha)]
      rw [sufA_s ha, List.filter_append, ← List.append_assoc] at hlen ⊢
      obtain ⟨na1, nb1, nc1, hT1, e1⟩ := work_b (kn := kn) (k20 := fun n_kn n_ct n_a n_b n_c x1 => f_N_work_L20 tk xs ys n n_kn n_ct n_a n_b n_c x1) hI ha 600 0 P na nb nc (by omega) (by omega) (by rw [List.length_append] at hlen; omega) hT
      rw [nI_0] at e1
      rw [e1]
      exact ih (a + 1) _ na1 nb1 nc1 (by omega) (by omega) hlen hT1
end Work
theorem PI_dist {xs ys tk : Nat → Int32} (hI : PI xs ys tk) : ∀ i j, Sx tk i → Sx tk j → ptf xs ys i = ptf xs ys j → i = j := fun i j hi hj e => hI.2.2.2.2 i j hi hj (Int32.toInt_inj.mp (congrArg Prod.fst e)) (Int32.toInt_inj.mp (congrArg Prod.snd e))
/-- the reference knows its triangles -/
def NI (xs ys tk : Nat → Int32) (kn ct : Int32) (na nb nc : Nat → Int32) : Prop := kn ≠ 0 → ct = nI (TL (Sx tk) (ptf xs ys)).length ∧ HT (TL (Sx tk) (ptf xs ys)) na nb nc
theorem s_work {xs ys tk : Nat → Int32} (hI : PI xs ys tk) {kn ct : Int32} {na nb nc : Nat → Int32} (hN : NI xs ys tk kn ct na nb nc) :
    ∃ kn' na' nb' nc', f_N_work tk xs ys kn ct na nb nc = some (kn', nI (TL (Sx tk) (ptf xs ys)).length, na', nb', nc') ∧ kn' ≠ 0 ∧ HT (TL (Sx tk) (ptf xs ys)) na' nb' nc' := by
  obtain ⟨na1, nb1, nc1, hT1, e1⟩ := work_a (kn := 1) hI 600 0 [] na nb nc (by omega) (by omega) (by rw [List.nil_append]; exact TL_40 (PI_dist hI) hI.2.2.2.1) (fun k hk => absurd hk (Nat.not_lt_zero _))
  rw [List.nil_append] at hT1 e1
  rw [List.length_nil, nI_0] at e1
  unfold f_N_work
  rw [e1]
  by_cases h : kn = 0
  · rw [if_pos h]
    exact ⟨1, na1, nb1, nc1, rfl, by decide, hT1⟩
  · rw [if_neg h]
    obtain ⟨h1, h2⟩ := hN h
    exact ⟨kn, na, nb, nc, by rw [h1], h, h2⟩
