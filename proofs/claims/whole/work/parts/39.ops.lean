/-! insert, remove, move, sites, coordinate: class and reference answer alike, and what is known of the sites stays true. -/
theorem upd_same {f : Nat → Int32} {k : Nat} {x : Int32} (h : f k = x) : upd f k x = f := by
  funext j
  by_cases e : j = k
  · subst e; rw [upd_s, h]
  · rw [upd_n e]
theorem upd_upd {f : Nat → Int32} {k : Nat} {x y : Int32} : upd (upd f k x) k y = upd f k y := by
  funext j
  by_cases e : j = k
  · subst e; rw [upd_s, upd_s]
  · rw [upd_n e, upd_n e, upd_n e]
theorem od_lt {xs ys tk ord : Nat → Int32} {pn : Int32} {od : List Nat} (hI : PI xs ys tk) (hO : OI xs ys tk ord pn od) {m : Nat} (hm : m < 20) (h0 : tk m = 0) : od.length < 20 := by
  have hn : (m :: od).Nodup := List.nodup_cons.mpr ⟨fun h => (hO.2.2.2 m).mp h h0, pw_nodup hO.2.2.1⟩
  have := od_len hn (fun i hi => by
    rcases List.mem_cons.mp hi with rfl | hi
    · exact hm
    · exact hI.2.2.2.1 i ((hO.2.2.2 i).mp hi))
  rw [List.length_cons] at this
  omega
theorem od20 {xs ys tk ord : Nat → Int32} {pn : Int32} {od : List Nat} (hI : PI xs ys tk) (hO : OI xs ys tk ord pn od) : od.length ≤ 20 := od_len (pw_nodup hO.2.2.1) (fun i hi => hI.2.2.2.1 i ((hO.2.2.2 i).mp hi))
theorem op_insert {xs ys tk ord : Nat → Int32} {pn : Int32} {od : List Nat} (hI : PI xs ys tk) (hO : OI xs ys tk ord pn od) (st kn x y : Int32) :
    ∃ (r st' : Int32) (xs' ys' tk' ord' : Nat → Int32) (pn' kn' : Int32) (od' : List Nat), f_F_insert st xs ys tk ord pn x y = some (r, st', xs', ys', tk', ord', pn') ∧ f_N_insert tk xs ys kn x y = some (r, tk', xs', ys', kn') ∧ PI xs' ys' tk' ∧ OI xs' ys' tk' ord' pn' od' ∧ ((st' = st ∧ (kn' = kn ∨ kn' = 0) ∧ xs' = xs ∧ ys' = ys ∧ tk' = tk ∧ ord' = ord ∧ pn' = pn) ∨ (st' = 1 ∧ kn' = 0)) := by
  unfold f_F_insert f_N_insert
  rcases reach_cases x y with ⟨e1, e2, bx, by'⟩ | ⟨e1, e2⟩
  · rw [e1, e2]
    dsimp only [Option.bind]
    rw [if_neg (by decide), if_pos rfl]
    rcases at_cases hI x y with ⟨m, m1, m2, m3, e3, e4⟩ | ⟨hne, e3, e4⟩
    · rw [e3, e4]
      dsimp only [Option.bind]
      rw [if_neg (show ¬ nI m = -1 from fun h => by have := nI_pos (n := m) (by omega); rw [h] at this; exact this (by decide)), if_neg (nI_pos (by omega))]
      exact ⟨_, _, _, _, _, _, _, _, od, rfl, rfl, hI, hO, Or.inl ⟨rfl, Or.inl rfl, rfl, rfl, rfl, rfl, rfl⟩⟩
    · rw [e3, e4]
      dsimp only [Option.bind]
      rw [if_pos rfl, if_pos (by decide)]
      rcases free_loop (tk := tk) 600 0 (by omega) (by omega) (fun j hj => absurd hj (Nat.not_lt_zero _)) with ⟨m, m1, m2, m3, e5⟩ | ⟨hfull, e5⟩
      · have e5' : f_P_freeSlot tk = some (nI m) := e5
        have e6 : f_N_insert_L25 600 tk xs ys kn x y 0 = some (nI m, upd tk m 1, upd xs m x, upd ys m y, 0) := ins_loop m1 m2 m3 600 0 (by omega) (Nat.zero_le _)
        rw [e5', e6]
        dsimp only [Option.bind]
        rw [if_neg (show ¬ nI m = -1 from fun h => by have := nI_pos (n := m) (by omega); rw [h] at this; exact this (by decide))]
        obtain ⟨h1, h2, h3, h4⟩ := hO
        have hns : m ∉ od := fun h => (h4 m).mp h m2
        obtain ⟨ord', od', f1, f2, f3, f4⟩ := s_put (xs := xs) (ys := ys) (tk := tk) (ord := ord) (x := x) (y := y) m1 (od_lt hI ⟨h1, h2, h3, h4⟩ m1 m2) (fun a ha => hI.2.2.2.1 a ((h4 a).mp ha)) hns h2 h3 (fun a ha => hne a ((h4 a).mp ha))
        rw [h1, f1]
        dsimp only
        refine ⟨_, _, _, _, _, _, _, _, od', rfl, rfl, PI_put hI m1 bx by' (fun a ha _ => hne a ha), ⟨rfl, f2, f3, ?_⟩, Or.inr ⟨rfl, rfl⟩⟩
        intro i
        rw [f4 i]
        by_cases e : i = m
        · subst e
          rw [upd_s]
          exact ⟨fun _ => by decide, fun _ => Or.inl rfl⟩
        · rw [upd_n e, h4 i]
          exact ⟨fun h => h.resolve_left e, Or.inr⟩
      · have e5' : f_P_freeSlot tk = some (-1) := e5
        have e6 : f_N_insert_L25 600 tk xs ys kn x y 0 = some (-4, tk, xs, ys, kn) := ins_full hfull 600 0 (by omega) (by omega)
        rw [e5', e6]
        dsimp only [Option.bind]
        rw [if_pos rfl]
        exact ⟨_, _, _, _, _, _, _, _, od, rfl, rfl, hI, hO, Or.inl ⟨rfl, Or.inl rfl, rfl, rfl, rfl, rfl, rfl⟩⟩
  · rw [e1, e2]
    dsimp only [Option.bind]
    rw [if_pos rfl, if_neg (by decide)]
    exact ⟨_, _, _, _, _, _, _, _, od, rfl, rfl, hI, hO, Or.inl ⟨rfl, Or.inl rfl, rfl, rfl, rfl, rfl, rfl⟩⟩
theorem op_remove {xs ys tk ord : Nat → Int32} {pn : Int32} {od : List Nat} (hI : PI xs ys tk) (hO : OI xs ys tk ord pn od) (st kn x : Int32) :
    ∃ (r st' : Int32) (tk' ord' : Nat → Int32) (pn' kn' : Int32) (od' : List Nat), f_F_remove st tk ord pn x = some (r, st', tk', ord', pn') ∧ f_N_remove tk kn x = some (r, tk', kn') ∧ PI xs ys tk' ∧ OI xs ys tk' ord' pn' od' ∧ ((st' = st ∧ kn' = kn ∧ tk' = tk ∧ ord' = ord ∧ pn' = pn) ∨ (st' = 1 ∧ kn' = 0)) := by
  unfold f_F_remove f_N_remove
  rw [N_is]
  rcases has_cases tk x with ⟨a, ha, rfl, h1, e⟩ | ⟨e, -⟩
  · rw [e]
    dsimp only [Option.bind]
    rw [if_neg (by decide), if_neg (by decide), if_pos (ix_nI ha (by decide)), cl_nI ha (by decide)]
    obtain ⟨ord', f1, f2⟩ := s_drop ha hI hO
    rw [f1]
    exact ⟨_, _, _, _, _, _, _, rfl, rfl, PI_rem hI, f2, Or.inr ⟨rfl, rfl⟩⟩
  · rw [e]
    dsimp only [Option.bind]
    rw [if_pos rfl, if_pos rfl]
    exact ⟨_, _, _, _, _, _, od, rfl, rfl, hI, hO, Or.inl ⟨rfl, rfl, rfl, rfl, rfl⟩⟩
theorem op_move {xs ys tk ord : Nat → Int32} {pn : Int32} {od : List Nat} (hI : PI xs ys tk) (hO : OI xs ys tk ord pn od) (st kn s x y : Int32) :
    ∃ (r st' : Int32) (xs' ys' tk' ord' : Nat → Int32) (pn' kn' : Int32) (od' : List Nat), f_F_move st xs ys tk ord pn s x y = some (r, st', xs', ys', tk', ord', pn') ∧ f_N_move tk xs ys kn s x y = some (r, xs', ys', kn') ∧ tk' = tk ∧ PI xs' ys' tk' ∧ OI xs' ys' tk' ord' pn' od' ∧ ((st' = st ∧ (kn' = kn ∨ kn' = 0) ∧ xs' = xs ∧ ys' = ys ∧ tk' = tk ∧ ord' = ord ∧ pn' = pn) ∨ (st' = 1 ∧ kn' = 0)) := by
  unfold f_F_move f_N_move
  rw [N_is]
  rcases has_cases tk s with ⟨a, ha, rfl, h1, e⟩ | ⟨e, -⟩
  · rw [e]
    dsimp only [Option.bind]
    rw [if_neg (by decide), if_neg (by decide)]
    rcases reach_cases x y with ⟨e1, e2, bx, by'⟩ | ⟨e1, e2⟩
    · rw [e1, e2]
      dsimp only [Option.bind]
      rw [if_neg (by decide), if_pos rfl]
      have hb : f_N_move_b43 tk xs ys kn (nI a) x y = some (nI a, upd xs a x, upd ys a y, 0) := by
        unfold f_N_move_b43
        rw [if_pos (ix_nI ha (by decide)), if_pos (ix_nI ha (by decide)), cl_nI ha (by decide)]
      rcases at_cases hI x y with ⟨m, m1, m2, m3, e3, e4⟩ | ⟨hne, e3, e4⟩
      · rw [e3, e4]
        dsimp only [Option.bind]
        have hneg : ¬ nI m = -1 := fun h => by have := nI_pos (n := m) (by omega); rw [h] at this; exact this (by decide)
        rw [if_neg (nI_pos (by omega))]
        by_cases q : m = a
        · subst q
          rw [if_pos rfl, if_pos rfl, hb, upd_same m3.1, upd_same m3.2]
          exact ⟨_, _, _, _, _, _, _, _, od, rfl, rfl, rfl, hI, hO, Or.inl ⟨rfl, Or.inr rfl, rfl, rfl, rfl, rfl, rfl⟩⟩
        · have q' : ¬ nI m = nI a := fun h => q ((nI_eq (by omega) (by omega)).mp h)
          rw [if_neg q', if_neg q', if_neg hneg]
          exact ⟨_, _, _, _, _, _, _, _, od, rfl, rfl, rfl, hI, hO, Or.inl ⟨rfl, Or.inl rfl, rfl, rfl, rfl, rfl, rfl⟩⟩
      · rw [e3, e4]
        dsimp only [Option.bind]
        have hneg : ¬ (-1 : Int32) = nI a := fun h => by have := nI_pos (n := a) (by omega); rw [← h] at this; exact this (by decide)
        rw [if_neg hneg, if_pos rfl, if_pos (by decide), hb]
        obtain ⟨ord1, f1, f2⟩ := s_drop ha hI hO
        rw [f1]
        dsimp only
        obtain ⟨g1, g2, g3, g4⟩ := f2
        have hI1 := PI_rem (slot := a) hI
        have hns : a ∉ od.filter (fun b => b != a) := by simp [List.mem_filter]
        have htk0 : upd tk a 0 a = 0 := upd_s
        obtain ⟨ord', od', p1, p2, p3, p4⟩ := s_put (xs := xs) (ys := ys) (tk := upd tk a 0) (ord := ord1) (x := x) (y := y) ha (od_lt hI1 ⟨g1, g2, g3, g4⟩ ha htk0) (fun b hb' => hI1.2.2.2.1 b ((g4 b).mp hb')) hns g2 g3 (fun b hb' => hne b ((hO.2.2.2 b).mp (List.mem_filter.mp hb').1))
        rw [p1]
        dsimp only
        have htk : upd (upd tk a 0) a 1 = tk := by rw [upd_upd]; exact upd_same ((hI.2.2.1 a).resolve_left h1)
        have hI2 := PI_put (slot := a) hI ha bx by' (fun b hb' _ => hne b hb')
        rw [upd_same ((hI.2.2.1 a).resolve_left h1)] at hI2
        rw [htk]
        refine ⟨_, _, _, _, _, _, _, _, od', rfl, rfl, rfl, hI2, ⟨rfl, p2, p3, ?_⟩, Or.inr ⟨rfl, rfl⟩⟩
        intro i
        rw [p4 i, g4 i]
        by_cases e5 : i = a
        · subst e5
          exact ⟨fun _ => h1, fun _ => Or.inl rfl⟩
        · rw [upd_n e5]
          exact ⟨fun h => h.resolve_left e5, Or.inr⟩
    · rw [e1, e2]
      dsimp only [Option.bind]
      rw [if_pos rfl, if_neg (by decide)]
      exact ⟨_, _, _, _, _, _, _, _, od, rfl, rfl, rfl, hI, hO, Or.inl ⟨rfl, Or.inl rfl, rfl, rfl, rfl, rfl, rfl⟩⟩
  · rw [e]
    dsimp only [Option.bind]
    rw [if_pos rfl, if_pos rfl]
    exact ⟨_, _, _, _, _, _, _, _, od, rfl, rfl, rfl, hI, hO, Or.inl ⟨rfl, Or.inl rfl, rfl, rfl, rfl, rfl, rfl⟩⟩
theorem sites_loop {tk : Nat → Int32} : ∀ (n k : Nat), 20 - k < n → k ≤ 20 → f_N_sites_L4 tk n (nI ((List.range k).filter (fun i => tk i != 0)).length) (nI k) = some (nI ((List.range 20).filter (fun i => tk i != 0)).length) := by
  intro n
  induction n with
  | zero => intro k h; exact absurd h (Nat.not_lt_zero _)
  | succ n ih =>
    intro k hn hk
    rw [f_N_sites_L4]
    by_cases e : k = 20
    · rw [if_pos (ge20 e)]
      subst e
      rfl
    · have hk : k < 20 := by omega
      have ih' := ih (k + 1) (by omega) (by omega)
      rw [List.range_succ, List.filter_append, List.length_append] at ih'
      rw [if_neg (lt20 hk)]
      simp only [if_pos (ix_nI hk (by decide)), cl_nI hk (by decide), f_N_sites_b25]
      by_cases h1 : tk k = 0
      · rw [if_pos h1]
        have e2 : [k].filter (fun i => tk i != 0) = [] := by simp [h1]
        rw [e2] at ih'
        rw [nI_1, show ∀ z : Int32, z + 0 = z from fun z => by simp]
        exact ih'
      · rw [if_neg h1]
        have e2 : [k].filter (fun i => tk i != 0) = [k] := by simp [h1]
        rw [e2] at ih'
        rw [nI_1, nI_1]
        exact ih'
theorem op_sites {xs ys tk ord : Nat → Int32} {pn : Int32} {od : List Nat} (hI : PI xs ys tk) (hO : OI xs ys tk ord pn od) : f_F_sites pn = some pn ∧ f_N_sites tk = some pn := by
  refine ⟨rfl, ?_⟩
  have h := sites_loop (tk := tk) 600 0 (by omega) (by omega)
  have e : ((List.range 20).filter (fun i => tk i != 0)).length = od.length := by
    apply Nat.le_antisymm
    · refine List.Nodup.length_le_of_subset (List.Pairwise.filter _ List.nodup_range) (fun i hi => ?_)
      rw [List.mem_filter] at hi
      exact (hO.2.2.2 i).mpr (by simpa using hi.2)
    · refine List.Nodup.length_le_of_subset (pw_nodup hO.2.2.1) (fun i hi => ?_)
      have := (hO.2.2.2 i).mp hi
      rw [List.mem_filter, List.mem_range]
      exact ⟨hI.2.2.2.1 i this, by simpa using this⟩
  rw [e, ← hO.1] at h
  exact h
theorem op_coord (xs ys tk : Nat → Int32) (x y : Int32) : ∃ r, f_F_coordinate xs ys tk x y = some r ∧ f_N_coordinate tk xs ys x y = some r := by
  unfold f_F_coordinate f_N_coordinate f_P_x f_P_y
  rw [N_is]
  rcases has_cases tk x with ⟨a, ha, rfl, h1, e⟩ | ⟨e, -⟩
  · rw [e]
    dsimp only [Option.bind]
    rw [if_neg (show ¬ (1 : Int32) = 0 by decide), if_neg (show ¬ (1 : Int32) = 0 by decide)]
    simp only [if_pos (ix_nI ha (by decide)), cl_nI ha (by decide)]
    have key : ∃ r, (if y < 0 then some (2000000 : Int32) else if y ≤ 1 then if y = 0 then some (xs a) else some (ys a) else some 2000000) = some r := by
      split
      · exact ⟨_, rfl⟩
      · split
        · split
          · exact ⟨_, rfl⟩
          · exact ⟨_, rfl⟩
        · exact ⟨_, rfl⟩
    obtain ⟨r, hr⟩ := key
    exact ⟨r, hr, hr⟩
  · rw [e]
    dsimp only [Option.bind]
    rw [if_pos rfl, if_pos rfl]
    exact ⟨_, rfl, rfl⟩
