/-! The reference's boundary. -/
def isBL (pt : Nat → Int × Int) (od B : List Nat) : Prop := (flatL pt od ∧ B = od) ∨ (¬ flatL pt od ∧ B = bnd pt od)
section G
variable {xs ys tk ord na nb nc : Nat → Int32} {kn ct pn : Int32} {od : List Nat}
theorem od_tri (hO : OI xs ys tk ord pn od) : ∀ i j, tk i ≠ 0 → tk j ≠ 0 → i = j ∨ lex (ptf xs ys i) (ptf xs ys j) ∨ lex (ptf xs ys j) (ptf xs ys i) := by
  intro x r hx hr
  obtain ⟨i, hi, rfl⟩ := List.mem_iff_getElem.mp ((hO.2.2.2 x).mpr hx)
  obtain ⟨j, hj, rfl⟩ := List.mem_iff_getElem.mp ((hO.2.2.2 r).mpr hr)
  rcases Nat.lt_trichotomy i j with h | h | h
  · exact Or.inr (Or.inl (List.pairwise_iff_getElem.mp hO.2.2.1 i j hi hj h))
  · subst h; exact Or.inl rfl
  · exact Or.inr (Or.inr (List.pairwise_iff_getElem.mp hO.2.2.1 j i hj hi h))
theorem od_ix {x : Nat} (h : x ∈ od) : ∃ i, i < od.length ∧ od.getD i 0 = x := by
  obtain ⟨i, hi, e⟩ := List.mem_iff_getElem.mp h
  exact ⟨i, hi, by rw [List.getD_eq_getElem?_getD, List.getElem?_eq_getElem hi]; exact e⟩
theorem s_earliest (hI : PI xs ys tk) (hO : OI xs ys tk ord pn od) : (od = [] ∧ f_N_earliest tk xs ys = some (-1)) ∨ (0 < od.length ∧ f_N_earliest tk xs ys = some (nI (od.getD 0 0))) := by
  have h := earl_loop (tk := tk) (xs := xs) (ys := ys) (od_tri hO) 600 0 (-1) (by omega) (Nat.zero_le _) (Or.inl ⟨rfl, fun j hj => absurd hj (Nat.not_lt_zero _)⟩)
  rw [nI_0] at h
  rcases h with ⟨h1, h2⟩ | ⟨a, a1, a2, a3, a4⟩
  · refine Or.inl ⟨?_, h1⟩
    apply List.eq_nil_iff_forall_not_mem.mpr
    intro x hx
    have := (hO.2.2.2 x).mp hx
    exact this (h2 x (hI.2.2.2.1 x this))
  · have ha := (hO.2.2.2 a).mpr a2
    have hpos : 0 < od.length := List.length_pos_of_mem ha
    refine Or.inr ⟨hpos, ?_⟩
    have m0 : od.getD 0 0 ∈ od := getD_mem hpos
    have t0 := (hO.2.2.2 _).mp m0
    obtain ⟨i, hi, e⟩ := od_ix ha
    have : a = od.getD 0 0 := by
      rcases a4 (od.getD 0 0) (hI.2.2.2.1 _ t0) t0 with q | q
      · exact q
      · rcases Nat.eq_zero_or_pos i with z | z
        · rw [← e, z]
        · have := pw_get hO.2.2.1 z hi
          rw [e] at this
          exact absurd this (lex_asym q)
    rw [← this]
    exact a3
theorem s_later (hI : PI xs ys tk) (hO : OI xs ys tk ord pn od) {i : Nat} (hi : i < od.length) : f_N_later tk xs ys (nI (od.getD i 0)) = some (if i + 1 < od.length then nI (od.getD (i + 1) 0) else -1) := by
  have mi : od.getD i 0 ∈ od := getD_mem hi
  have ti := (hO.2.2.2 _).mp mi
  have h := later_loop (tk := tk) (xs := xs) (ys := ys) (od_tri hO) (hI.2.2.2.1 _ ti) 600 0 (-1) (by omega) (Nat.zero_le _) (Or.inl ⟨rfl, fun j hj => absurd hj (Nat.not_lt_zero _)⟩)
  rw [nI_0] at h
  rcases h with ⟨h1, h2⟩ | ⟨a, a1, a2, a0, a3, a4⟩
  · have hn : ¬ i + 1 < od.length := fun hlt => by
      have m1 : od.getD (i + 1) 0 ∈ od := getD_mem hlt
      have t1 := (hO.2.2.2 _).mp m1
      exact h2 _ (hI.2.2.2.1 _ t1) t1 (pw_get hO.2.2.1 (Nat.lt_succ_self i) hlt)
    rw [if_neg hn]
    exact h1
  · obtain ⟨j, hj, e⟩ := od_ix ((hO.2.2.2 a).mpr a2)
    have hij : i < j := by
      rcases Nat.lt_trichotomy i j with q | q | q
      · exact q
      · rw [← e, q] at a0; exact absurd a0 lex_ir
      · have := pw_get hO.2.2.1 q hi
        rw [e] at this
        exact absurd this (lex_asym a0)
    have hlt : i + 1 < od.length := by omega
    have m1 : od.getD (i + 1) 0 ∈ od := getD_mem hlt
    have t1 := (hO.2.2.2 _).mp m1
    have : a = od.getD (i + 1) 0 := by
      rcases a4 _ (hI.2.2.2.1 _ t1) t1 (pw_get hO.2.2.1 (Nat.lt_succ_self i) hlt) with q | q
      · exact q
      · by_cases z : j = i + 1
        · rw [← e, z]
        · have := pw_get hO.2.2.1 (show i + 1 < j by omega) hj
          rw [e] at this
          exact absurd this (lex_asym q)
    rw [if_pos hlt, ← this]
    exact a3
/-- the reference's way round lays the boundary; that sites which are not on one line have a triangle is given here, and owed -/
theorem s_goRound_open (hI : PI xs ys tk) (hO : OI xs ys tk ord pn od) (hN : NI xs ys tk kn ct na nb nc) (hT0 : ¬ flatL (ptf xs ys) od → TL (Sx tk) (ptf xs ys) ≠ []) {B : List Nat} (hB : isBL (ptf xs ys) od B) (rd : Int32) (ed : Nat → Int32) :
    ∃ (kn' : Int32) (na' nb' nc' ed' : Nat → Int32), f_N_goRound tk xs ys kn ct na nb nc rd ed = some (kn', nI (TL (Sx tk) (ptf xs ys)).length, na', nb', nc', nI B.length, ed') ∧ kn' ≠ 0 ∧ HT (TL (Sx tk) (ptf xs ys)) na' nb' nc' ∧ (∀ j, j < B.length → ed' j = nI (B.getD j 0)) ∧ B.length ≤ 20 ∧ (∀ a ∈ B, a ∈ od) := by
  obtain ⟨kn', na', nb', nc', e, h1, h2⟩ := s_work hI hN
  have h40 := TL_40 (PI_dist hI) hI.2.2.2.1
  have hod : ∀ a ∈ od, a < 20 := fun a ha => hI.2.2.2.1 a ((hO.2.2.2 a).mp ha)
  have hod20 := od20 hI hO
  have hsx : (fun r => r ∈ od) = Sx tk := by
    funext r
    exact propext (hO.2.2.2 r)
  -- the loop over B
  have main : ∀ ct' : Int32, ct' = nI (TL (Sx tk) (ptf xs ys)).length → 0 < B.length → B.getD 0 0 = od.getD 0 0 → B.length ≤ 20 → (∀ a ∈ B, a ∈ od) → (∀ i, i + 1 < B.length → stepN xs ys tk ct' (B.getD i 0) = some (nI (B.getD (i + 1) 0))) → (∀ i, i + 1 = B.length → stepN xs ys tk ct' (B.getD i 0) = some (-1) ∨ stepN xs ys tk ct' (B.getD i 0) = some (nI (B.getD 0 0))) → (∀ i, 0 < i → i < B.length → B.getD i 0 ≠ B.getD 0 0) → 0 < od.length → f_N_earliest tk xs ys = some (nI (od.getD 0 0)) →
      ∃ ed', f_N_goRound tk xs ys kn ct na nb nc rd ed = some (kn', nI (TL (Sx tk) (ptf xs ys)).length, na', nb', nc', nI B.length, ed') ∧ ∀ j, j < B.length → ed' j = nI (B.getD j 0) := by
    intro ct' hct hpos hb0 hb20 hbm hnx hlast hne _ he
    obtain ⟨ed', e1, e2⟩ := round_loop (kn := kn') (ct := ct') (na := na') (nb := nb') (nc := nc') hb20 (fun a ha => hod a (hbm a ha)) hnx hlast hne 600 0 ed (by omega) hpos (fun j hj => absurd hj (Nat.not_lt_zero _))
    rw [nI_0, hb0, hct] at e1
    refine ⟨ed', ?_, e2⟩
    unfold f_N_goRound
    rw [e, he]
    exact e1
  rcases s_earliest hI hO with ⟨h0, he⟩ | ⟨hpos, he⟩
  · -- no site at all
    subst h0
    have hfl : flatL (ptf xs ys) ([] : List Nat) := fun k _ hk => absurd hk (Nat.not_lt_zero _)
    have hB' : B = [] := by
      rcases hB with ⟨_, q⟩ | ⟨q, _⟩
      · exact q
      · exact absurd hfl q
    subst hB'
    refine ⟨kn', na', nb', nc', ed, ?_, h1, h2, fun j hj => absurd hj (Nat.not_lt_zero _), Nat.zero_le _, fun a ha => ha⟩
    unfold f_N_goRound
    rw [e, he]
    dsimp only [Option.bind]
    rw [f_N_goRound_L16, if_pos (show (-1 : Int32) < 0 by decide)]
    rfl
  · rcases hB with ⟨hf, rfl⟩ | ⟨hnf, rfl⟩
    · have hz : nI (TL (Sx tk) (ptf xs ys)).length = 0 := by rw [flat_TL hI hO hf]; rfl
      obtain ⟨ed', g1, g2⟩ := main _ rfl hpos rfl hod20 (fun a ha => ha) (fun i hi => by
        unfold stepN
        rw [if_pos hz, s_later hI hO (by omega), if_pos hi]) (fun i hi => by
        left
        unfold stepN
        rw [if_pos hz, s_later hI hO (by omega), if_neg (by omega)]) (fun i i0 hi q => by
        have := pw_get hO.2.2.1 i0 hi
        rw [q] at this
        exact lex_ir this) hpos he
      exact ⟨kn', na', nb', nc', ed', g1, h1, h2, g2, hod20, fun a ha => ha⟩
    · have hm : od.head? = some (od.getD 0 0) := by
        cases hq : od with
        | nil => rw [hq] at hpos; exact absurd hpos (Nat.lt_irrefl _)
        | cons a l => rfl
      obtain ⟨-, b2, b3, b4, b5, -, b7, b8⟩ := bnd_ok hm hO.2.2.1 hnf
      have hb20 : (bnd (ptf xs ys) od).length ≤ 20 := od_len b2 (fun a ha => hod a (b3 a ha))
      have hlen0 : (TL (Sx tk) (ptf xs ys)).length ≠ 0 := fun q => hT0 hnf (List.eq_nil_of_length_eq_zero q)
      have hz : ¬ nI (TL (Sx tk) (ptf xs ys)).length = 0 := nI_ne0 (by omega) (by omega)
      rw [hsx] at b7 b8
      have wit : ∀ a b : Nat, Nx (ptf xs ys) (Sx tk) a b → ∃ r, tk r ≠ 0 ∧ ori (ptf xs ys a) (ptf xs ys b) (ptf xs ys r) ≠ 0 := by
        intro a b hab
        rcases Classical.em (∃ r, tk r ≠ 0 ∧ ori (ptf xs ys a) (ptf xs ys b) (ptf xs ys r) ≠ 0) with q | q
        · exact q
        · exfalso
          refine hnf (line_flat hab.1 (fun r hr => ?_))
          rcases Classical.em (ori (ptf xs ys a) (ptf xs ys b) (ptf xs ys r) = 0) with z | z
          · exact z
          · exact absurd ⟨r, (hO.2.2.2 r).mp hr, z⟩ q
      have tkB : ∀ i, i < (bnd (ptf xs ys) od).length → tk ((bnd (ptf xs ys) od).getD i 0) ≠ 0 := fun i hi => (hO.2.2.2 _).mp (b3 _ (getD_mem hi))
      obtain ⟨ed', g1, g2⟩ := main _ rfl b4 b5 hb20 b3 (fun i hi => by
        unfold stepN
        rw [if_neg hz]
        exact s_onward hI (tkB i (by omega)) (tkB (i + 1) hi) (b7 i hi) (wit _ _ (b7 i hi))) (fun i hi => by
        right
        unfold stepN
        rw [if_neg hz, b5]
        have n := b8 i hi
        exact s_onward hI (tkB i (by omega)) (by rw [← b5]; exact tkB 0 b4) n (wit _ _ n)) (fun i i0 hi q => by
        have := List.pairwise_iff_getElem.mp b2 0 i b4 hi i0
        apply this
        rw [List.getD_eq_getElem?_getD, List.getD_eq_getElem?_getD, List.getElem?_eq_getElem hi, List.getElem?_eq_getElem b4] at q
        exact q.symm) hpos he
      exact ⟨kn', na', nb', nc', ed', g1, h1, h2, g2, hb20, b3⟩
end G
