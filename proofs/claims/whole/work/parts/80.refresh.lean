/-! refresh: the mesh holds all triangles, the links all neighbours. -/
/-- neighbours where the sites are not on one line -/
def nbr (pt : Nat → Int × Int) (od : List Nat) (x y : Nat) : Prop := (∃ z, FE pt od x y z) ∨ ∃ z, FE pt od y x z
/-- neighbours on a line -/
def lnb (od : List Nat) (x y : Nat) : Prop := ∃ i, 0 < i ∧ i < od.length ∧ ((x = od.getD (i - 1) 0 ∧ y = od.getD i 0) ∨ (x = od.getD i 0 ∧ y = od.getD (i - 1) 0))
section T
variable {xs ys tk ord row ke fs li wa ri : Nat → Int32} {st pn on fl mn wn rn : Int32} {od B : List Nat}
theorem ring_ex (hI : PI xs ys tk) (hO : OI xs ys tk ord pn od) (f t a : Nat) (hE : Emp (ptf xs ys) od f t a) : ∃ R, Rg (ptf xs ys) od R f t a := by
  have hm : ∀ a ∈ od, a < 20 := fun a ha => hI.2.2.2.1 a ((hO.2.2.2 a).mp ha)
  obtain ⟨-, R, -, -, h⟩ := s_gather hI.1 hI.2.1 (od_len (pw_nodup hO.2.2.1) hm) hm hO.2.1 hO.1 hO.2.2.1 hE (fun _ => 0) 0
  exact ⟨R, h⟩
theorem fe_TL (hI : PI xs ys tk) (hO : OI xs ys tk ord pn od) {x y z : Nat} (hF : FE (ptf xs ys) od x y z) : ∃ u ∈ TL (Sx tk) (ptf xs ys), (x, y) = (u.1, u.2.1) ∨ (x, y) = (u.2.1, u.2.2) ∨ (x, y) = (u.2.2, u.1) := by
  obtain ⟨R, hR⟩ := ring_ex hI hO x y z hF.1
  have h3 := rg_len hF.1 hR
  have hS : ∀ i, Sx tk i ↔ i ∈ od := fun i => (hO.2.2.2 i).symm
  have mk : ∀ i, 2 ≤ i → i < R.length → (R.getD 0 0, R.getD (i - 1) 0, R.getD i 0) ∈ TL (Sx tk) (ptf xs ys) := fun i h1 h2 => (TL_mem hI.2.2.2.1).mpr (fan_isT hS hF.1 hR h1 h2).1
  obtain ⟨i, hi, ex, ey⟩ := FE_RE hF hR
  by_cases hl : i + 1 < R.length
  · rw [if_pos hl] at ey
    by_cases i0 : i = 0
    · subst i0
      exact ⟨_, mk 2 (by omega) (by omega), Or.inl (by rw [ex, ey])⟩
    · refine ⟨_, mk (i + 1) (by omega) hl, Or.inr (Or.inl ?_)⟩
      rw [ex, ey]
      rfl
  · rw [if_neg hl] at ey
    refine ⟨_, mk i (by omega) hi, Or.inr (Or.inr ?_)⟩
    rw [ex, ey]
theorem nf_head (hnf : ¬ flatL (ptf xs ys) od) : ∃ m, od.head? = some m := by
  cases od with
  | nil => exact absurd (fun k h1 h2 => absurd h2 (Nat.not_lt_zero _)) hnf
  | cons a l => exact ⟨a, rfl⟩
theorem nf_BE (hO : OI xs ys tk ord pn od) (hnf : ¬ flatL (ptf xs ys) od) (x y : Nat) : BE (bnd (ptf xs ys) od) x y ↔ x ∈ od ∧ y ∈ od ∧ Nx (ptf xs ys) (fun r => r ∈ od) x y := by
  obtain ⟨m, hm⟩ := nf_head hnf
  exact ⟨fun q => bnd_Nx hm hO.2.2.1 hnf q, fun q => Nx_bnd hm hO.2.2.1 hnf q.1 q.2.1 q.2.2⟩
theorem nx_FE (hnf : ¬ flatL (ptf xs ys) od) {x y : Nat} (mx : x ∈ od) (my : y ∈ od) (hN : Nx (ptf xs ys) (fun r => r ∈ od) x y) : ∃ z, FE (ptf xs ys) od x y z := by
  obtain ⟨a, ha, oa, hl⟩ := best_apex (pt := ptf xs ys) (f := x) (t := y) od (by
    apply Classical.byContradiction
    intro hn
    refine hnf (line_flat hN.1 (fun r hr => ?_))
    have := hN.2.1 r hr
    rcases Int.lt_or_eq_of_le this with q | q
    · exact absurd ⟨r, hr, q⟩ hn
    · exact q.symm)
  exact ⟨a, apex_FE mx my (Or.inl hN) ha oa hl⟩
theorem nf_bounds (hI : PI xs ys tk) (hO : OI xs ys tk ord pn od) (hnf : ¬ flatL (ptf xs ys) od) : (TL (Sx tk) (ptf xs ys)).length ≤ 35 ∧ ∀ D : List (Nat × Nat), D.Nodup → (∀ p ∈ D, DE (ptf xs ys) od (bnd (ptf xs ys) od) p) → D.length ≤ 108 := by
  obtain ⟨m, hm⟩ := nf_head hnf
  have hS : ∀ i, Sx tk i ↔ i ∈ od := fun i => (hO.2.2.2 i).symm
  have h20 := od_len (pw_nodup hO.2.2.1) (fun a ha => hI.2.2.2.1 a ((hO.2.2.2 a).mp ha))
  have b := tl_bound (PI_dist hI) hI.2.2.2.1 hS hm hO.2.2.1 hnf
  have b3 := bnd_3 hm hO.2.2.1 hnf
  refine ⟨by omega, fun D hD h => ?_⟩
  have := edges_bound (T := TL (Sx tk) (ptf xs ys)) (B := bnd (ptf xs ys) od) D hD (fun p hp => by
    rcases h p hp with ⟨z, q⟩ | q
    · exact Or.inl (fe_TL hI hO q)
    · exact Or.inr q)
  omega
theorem nf_T0 (hI : PI xs ys tk) (hO : OI xs ys tk ord pn od) (hnf : ¬ flatL (ptf xs ys) od) : TL (Sx tk) (ptf xs ys) ≠ [] := by
  obtain ⟨m, hm⟩ := nf_head hnf
  obtain ⟨-, -, -, hpos, -⟩ := bnd_ok hm hO.2.2.1 hnf
  obtain ⟨mx, my, hN⟩ := bnd_Nx hm hO.2.2.1 hnf ⟨0, hpos, rfl, rfl⟩
  obtain ⟨z, hz⟩ := nx_FE hnf mx my hN
  obtain ⟨u, hu, -⟩ := fe_TL hI hO hz
  exact List.ne_nil_of_mem hu
theorem s_spread (hI : PI xs ys tk) (hO : OI xs ys tk ord pn od) (hnf : ¬ flatL (ptf xs ys) od) (hL : LK (fun x y => BE (bnd (ptf xs ys) od) y x) li) (hwa : ∀ j, j < (bnd (ptf xs ys) od).length → wa j = nI (prevB (bnd (ptf xs ys) od) j * 32 + (bnd (ptf xs ys) od).getD j 0)) :
    ∃ (ke' fs' li' wa' ri' : Nat → Int32) (mn' wn' rn' : Int32), f_M_spread xs ys ord pn ke fs 0 li wa (nI (bnd (ptf xs ys) od).length) ri rn = some (ke', fs', mn', li', wa', wn', ri', rn') ∧ MI (TL (Sx tk) (ptf xs ys)) ke' mn' ∧ FI xs ys tk (TL (Sx tk) (ptf xs ys)) fs' ∧ LK (nbr (ptf xs ys) od) li' := by
  obtain ⟨m, hm⟩ := nf_head hnf
  obtain ⟨-, hBnd, hsub, hpos, -⟩ := bnd_ok hm hO.2.2.1 hnf
  have hBE := nf_BE hO hnf
  obtain ⟨b35, hC⟩ := nf_bounds hI hO hnf
  have hS : ∀ i, Sx tk i ↔ i ∈ od := fun i => (hO.2.2.2 i).symm
  have hm20 : ∀ a ∈ od, a < 20 := fun a ha => hI.2.2.2.1 a ((hO.2.2.2 a).mp ha)
  have h20 := od_len (pw_nodup hO.2.2.1) hm20
  have hT : ∀ l : List (Nat × Nat × Nat), l.Nodup → (∀ u ∈ l, isT (Sx tk) (ptf xs ys) u.1 u.2.1 u.2.2) → l.length ≤ 35 := fun l hl h => Nat.le_trans (List.Nodup.length_le_of_subset hl (fun u hu => (TL_mem hI.2.2.2.1).mpr (h u hu))) b35
  generalize hB : bnd (ptf xs ys) od = B at hL hwa hBnd hsub hpos hBE hC ⊢
  have be : ∀ i, i < B.length → BE B (prevB B i) (B.getD i 0) := fun i hi => ⟨i, hi, rfl, rfl⟩
  have feB : ∀ x y, BE B x y → ∃ z, FE (ptf xs ys) od x y z := fun x y h => nx_FE hnf ((hBE x y).mp h).1 ((hBE x y).mp h).2.1 ((hBE x y).mp h).2.2
  have noBoth : ∀ x y, BE B x y → ¬ BE B y x := by
    intro x y h1 h2
    refine hnf (line_flat ((hBE x y).mp h1).2.2.1 (fun r hr => ?_))
    have c1 := ((hBE x y).mp h1).2.2.2.1 r hr
    have c2 := ((hBE y x).mp h2).2.2.2.1 r hr
    rw [ori_swap] at c2
    omega
  have gW : ∀ k, k < B.length → ((List.range B.length).map (fun i => (prevB B i, B.getD i 0))).getD k (0, 0) = (prevB B k, B.getD k 0) := by
    intro k hk
    rw [List.getD_eq_getElem?_getD, List.getElem?_map, List.getElem?_range hk]
    rfl
  have lW : ((List.range B.length).map (fun i => (prevB B i, B.getD i 0))).length = B.length := by rw [List.length_map, List.length_range]
  have hWS : WS (ptf xs ys) od B (fun x y => BE B y x) 0 ((List.range B.length).map (fun i => (prevB B i, B.getD i 0))) ((List.range B.length).map (fun i => (prevB B i, B.getD i 0)) ++ (List.range B.length).map (fun i => (B.getD i 0, prevB B i))) wa := by
    refine ⟨fun k hk => ?_, ?_, ?_, ?_, ?_⟩
    · rw [lW] at hk
      rw [gW k hk]
      exact hwa k hk
    · rw [List.nodup_append]
      refine ⟨?_, ?_, ?_⟩
      · unfold List.Nodup
        rw [List.pairwise_map]
        refine List.Pairwise.imp_of_mem ?_ List.nodup_range
        intro a b ha hb hne e
        exact nd_ne hBnd hne (List.mem_range.mp ha) (List.mem_range.mp hb) (congrArg Prod.snd e)
      · unfold List.Nodup
        rw [List.pairwise_map]
        refine List.Pairwise.imp_of_mem ?_ List.nodup_range
        intro a b ha hb hne e
        exact nd_ne hBnd hne (List.mem_range.mp ha) (List.mem_range.mp hb) (congrArg Prod.fst e)
      · intro p hp q hq e
        obtain ⟨i, hi, rfl⟩ := List.mem_map.mp hp
        obtain ⟨j, hj, rfl⟩ := List.mem_map.mp hq
        have e1 := congrArg Prod.fst e
        have e2 := congrArg Prod.snd e
        dsimp only at e1 e2
        have h1 := be i (List.mem_range.mp hi)
        have h2 := be j (List.mem_range.mp hj)
        rw [← e1, ← e2] at h2
        exact noBoth _ _ h1 h2
    · rw [List.length_append, lW, List.length_map, List.length_range]
      omega
    · intro p hp
      rcases List.mem_append.mp hp with q | q
      · obtain ⟨i, hi, rfl⟩ := List.mem_map.mp q
        have h1 := be i (List.mem_range.mp hi)
        exact ⟨Or.inr h1, Or.inl (feB _ _ h1)⟩
      · obtain ⟨i, hi, rfl⟩ := List.mem_map.mp q
        have h1 := be i (List.mem_range.mp hi)
        exact ⟨Or.inl h1, Or.inr h1⟩
    · intro p hp
      obtain ⟨i, hi, rfl⟩ := List.mem_map.mp hp
      have h1 := be i (List.mem_range.mp hi)
      exact ⟨h1, feB _ _ h1⟩
  have hInv : Inv xs ys tk od B (fun _ => False) (fun x y => BE B y x) [] ke fs li :=
    ⟨fun R h => h.elim, fun x y => ⟨Or.inl, fun q => q.elim id (fun ⟨R, h, _⟩ => h.elim)⟩, fun u => ⟨fun q => (by cases q), fun ⟨R, h, _⟩ => h.elim⟩, ⟨List.Pairwise.nil, fun k hk => absurd hk (Nat.not_lt_zero _)⟩, hL⟩
  obtain ⟨ke', fs', li', wa', ri', wn', rn', Fd, lk, KL, e, ⟨i1, i2, i3, i4, i5⟩, hcl⟩ := spread_loop hI.1 hI.2.1 h20 hm20 hO.2.1 hO.1 hO.2.2.1 (fun i => (hO.2.2.2 i).symm) hBE hC hT 600 0 ke fs li wa ri rn _ _ _ _ [] (by omega) hInv hWS (fun x y q => by
    obtain ⟨i, hi, e1, e2⟩ := q
    refine Or.inr (List.mem_map.mpr ⟨i, List.mem_range.mpr hi, ?_⟩)
    rw [e1, e2])
  rw [lW, List.length_nil, nI_0] at e
  have hfound := all_found hm20 hO.2.2.1 hBE (ring_ex hI hO) i1 i2 hcl
  have hKT : ∀ u, u ∈ KL ↔ u ∈ TL (Sx tk) (ptf xs ys) := by
    intro u
    rw [TL_mem hI.2.2.2.1, i3 u]
    constructor
    · rintro ⟨R, k1, j, j1, j2, eu⟩
      obtain ⟨f, t, a, hE, hR⟩ := i1 R k1
      rw [eu]
      exact (fan_isT hS hE hR j1 j2).1
    · intro h
      have hE := isT_Emp hS h
      obtain ⟨R0, hR0⟩ := ring_ex hI hO _ _ _ hE
      have hre0 := isT_edge hS h hR0
      obtain ⟨z, -, hz, -⟩ := RE_FE hE hR0 hre0
      obtain ⟨R, k1, k2⟩ := hfound _ _ _ hz
      obtain ⟨f, t, a, hE', hR'⟩ := i1 R k1
      have hmm := RE_uniq hE' hR' hE hR0 k2 hre0
      exact ⟨R, k1, isT_fan hS h ⟨fun d => (hmm d).trans (hR0.1 d), hR'.2⟩⟩
  have ht20 : ∀ u ∈ TL (Sx tk) (ptf xs ys), t20 u := fun u hu => by
    have h := (TL_mem hI.2.2.2.1).mp hu
    exact ⟨hI.2.2.2.1 _ h.1, hI.2.2.2.1 _ h.2.1, hI.2.2.2.1 _ h.2.2.1⟩
  have hTs : (TL (Sx tk) (ptf xs ys)).Pairwise (fun s t => key3 s < key3 t) := List.Pairwise.imp_of_mem (fun ha hb h => key_key (ht20 _ ha) (ht20 _ hb) h) (TL_lt _ _)
  have hKL : KL = TL (Sx tk) (ptf xs ys) := srt_ext (fun s t => key3 s < key3 t) (fun x y h => by omega) _ _ i4.1 hTs hKT
  subst hKL
  refine ⟨ke', fs', li', wa', ri', nI (TL (Sx tk) (ptf xs ys)).length, wn', rn', ?_, ⟨rfl, b35, ht20, fun k hk => (i4.2 k hk).1⟩, fun k hk => (i4.2 k hk).2, LK_congr i5 (fun x y => ?_)⟩
  · unfold f_M_spread
    exact e
  · rw [i2 x y]
    constructor
    · rintro (q | ⟨R, k1, k2⟩)
      · exact Or.inr (feB _ _ q)
      · obtain ⟨f, t, a, hE, hR⟩ := i1 R k1
        obtain ⟨z, -, hz, -⟩ := RE_FE hE hR k2
        exact Or.inl ⟨z, hz⟩
    · rintro (⟨z, q⟩ | ⟨z, q⟩)
      · exact Or.inr (hfound _ _ _ q)
      · exact (i2 x y).mp (hcl x y ((i2 y x).mpr (Or.inr (hfound _ _ _ q))))
end T
