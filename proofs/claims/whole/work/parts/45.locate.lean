/-! locate and corners, given what the mesh holds. -/
theorem cmp_lt {w : Int64} {z : Int} (h : w.toInt = z) : (lg_cmp w 0 < 0) ↔ z < 0 := by
  subst h
  rcases Int.lt_trichotomy w.toInt 0 with h | h | h
  · rw [cmp0_neg h]; exact ⟨fun _ => h, fun _ => by decide⟩
  · rw [cmp0_zero h]; exact ⟨fun q => absurd q (by decide), fun q => by omega⟩
  · rw [cmp0_pos h]; exact ⟨fun q => absurd q (by decide), fun q => by omega⟩
theorem sg_lt {z : Int} : sg z < 0 ↔ z < 0 := by
  rcases sg_cases z with ⟨h, e⟩ | ⟨h, e⟩ | ⟨h, e⟩
  · rw [e]; exact ⟨fun q => absurd q (by decide), fun q => by omega⟩
  · rw [e]; exact ⟨fun q => absurd q (by decide), fun q => by omega⟩
  · rw [e]; exact ⟨fun _ => h, fun _ => by decide⟩
theorem s_covers {xs ys ke : Nat → Int32} {mn : Int32} {l : List (Nat × Nat × Nat)} (hx : B6 xs) (hy : B6 ys) (hM : MI l ke mn) {k : Nat} (hk : k < l.length) {x y : Int32} (bX : -1000000 ≤ x.toInt ∧ x.toInt ≤ 1000000) (bY : -1000000 ≤ y.toInt ∧ y.toInt ≤ 1000000) :
    f_F_covers xs ys ke (nI k) x y = some (if ori (ptf xs ys (l.getD k (0, 0, 0)).1) (ptf xs ys (l.getD k (0, 0, 0)).2.1) (x.toInt, y.toInt) < 0 then 0 else if ori (ptf xs ys (l.getD k (0, 0, 0)).2.1) (ptf xs ys (l.getD k (0, 0, 0)).2.2) (x.toInt, y.toInt) < 0 then 0 else if ori (ptf xs ys (l.getD k (0, 0, 0)).2.2) (ptf xs ys (l.getD k (0, 0, 0)).1) (x.toInt, y.toInt) < 0 then 0 else 1) := by
  obtain ⟨c1, c2, c3⟩ := s_corner hM hk
  obtain ⟨ha, hb, hc⟩ := hM.2.2.1 _ (getD_mem3 hk)
  unfold f_F_covers
  rw [c1, c2, c3]
  generalize l.getD k (0, 0, 0) = t at ha hb hc ⊢
  obtain ⟨v1, e1, z1⟩ := s_cross hx hy ha hb (x := x) (y := y) rfl rfl bX bY
  obtain ⟨v2, e2, z2⟩ := s_cross hx hy hb hc (x := x) (y := y) rfl rfl bX bY
  obtain ⟨v3, e3, z3⟩ := s_cross hx hy hc ha (x := x) (y := y) rfl rfl bX bY
  dsimp only [Option.bind]
  rw [e1, e2, e3]
  dsimp only
  by_cases h1 : ori (ptf xs ys t.1) (ptf xs ys t.2.1) (x.toInt, y.toInt) < 0
  · rw [if_pos ((cmp_lt z1).mpr h1), if_pos h1]
  rw [if_neg (fun q => h1 ((cmp_lt z1).mp q)), if_neg h1]
  by_cases h2 : ori (ptf xs ys t.2.1) (ptf xs ys t.2.2) (x.toInt, y.toInt) < 0
  · rw [if_pos ((cmp_lt z2).mpr h2), if_pos h2]
  rw [if_neg (fun q => h2 ((cmp_lt z2).mp q)), if_neg h2]
  by_cases h3 : ori (ptf xs ys t.2.2) (ptf xs ys t.1) (x.toInt, y.toInt) < 0
  · rw [if_pos ((cmp_lt z3).mpr h3), if_pos h3]
  rw [if_neg (fun q => h3 ((cmp_lt z3).mp q)), if_neg h3]
section Q
variable {xs ys tk ord row ke fs li wa ri na nb nc : Nat → Int32} {st pn on fl mn wn rn kn ct : Int32} {v : Int32 × (Nat → Int32) × Int32 × Int32 × (Nat → Int32) × (Nat → Int32) × Int32 × (Nat → Int32) × (Nat → Int32) × Int32 × (Nat → Int32) × Int32}
theorem loc_loop {l : List (Nat × Nat × Nat)} (hx : B6 xs) (hy : B6 ys) (hM : MI l ke mn) (hT : HT l na nb nc) {x y : Int32} (bX : -1000000 ≤ x.toInt ∧ x.toInt ≤ 1000000) (bY : -1000000 ≤ y.toInt ∧ y.toInt ≤ 1000000) : ∀ (n k : Nat), l.length - k < n → k ≤ l.length →
    ∃ r, f_F_locate_L16 xs ys ord pn n st row on fl ke fs mn li wa wn ri rn x y (nI k) = some (r, st, row, on, fl, ke, fs, mn, li, wa, wn, ri, rn) ∧ f_N_locate_L16 tk xs ys n kn (nI l.length) na nb nc x y (nI k) = some (r, kn, nI l.length, na, nb, nc) := by
  have h35 := hM.2.1
  intro n
  induction n with
  | zero => intro k h; exact absurd h (Nat.not_lt_zero _)
  | succ n ih =>
    intro k hn hk
    rw [f_F_locate_L16, f_N_locate_L16]
    dsimp only [Option.bind, f_M_size]
    by_cases e : k = l.length
    · rw [if_pos (show mn ≤ nI k by rw [hM.1, e]; exact nI_le (Nat.le_refl _) (by omega)), if_pos (nI_le (by omega) (by omega))]
      exact ⟨_, rfl, rfl⟩
    · have hk : k < l.length := by omega
      have ih' := ih (k + 1) (by omega) (by omega)
      rw [if_neg (show ¬ mn ≤ nI k by rw [hM.1]; exact nI_ge hk (by omega)), if_neg (nI_ge hk (by omega)), s_covers hx hy hM hk bX bY]
      obtain ⟨g1, g2, g3⟩ := hT k hk
      obtain ⟨ha, hb, hc⟩ := hM.2.2.1 _ (getD_mem3 hk)
      simp only [if_pos (ix_nI (show k < 40 by omega) (by decide)), cl_nI (show k < 40 by omega) (by decide), nI_1, g1, g2, g3]
      generalize l.getD k (0, 0, 0) = t at ha hb hc ⊢
      rw [s_NsideOf hx hy ha hb (x := x) (y := y) rfl rfl bX bY, s_NsideOf hx hy hb hc (x := x) (y := y) rfl rfl bX bY, s_NsideOf hx hy hc ha (x := x) (y := y) rfl rfl bX bY]
      dsimp only
      by_cases h1 : ori (ptf xs ys t.1) (ptf xs ys t.2.1) (x.toInt, y.toInt) < 0
      · rw [if_pos (sg_lt.mpr h1), if_pos h1, if_pos rfl]; exact ih'
      rw [if_neg (fun q => h1 (sg_lt.mp q)), if_neg h1]
      by_cases h2 : ori (ptf xs ys t.2.1) (ptf xs ys t.2.2) (x.toInt, y.toInt) < 0
      · rw [if_pos (sg_lt.mpr h2), if_pos h2, if_pos rfl]; exact ih'
      rw [if_neg (fun q => h2 (sg_lt.mp q)), if_neg h2]
      by_cases h3 : ori (ptf xs ys t.2.2) (ptf xs ys t.1) (x.toInt, y.toInt) < 0
      · rw [if_pos (sg_lt.mpr h3), if_pos h3, if_pos rfl]; exact ih'
      rw [if_neg (fun q => h3 (sg_lt.mp q)), if_neg h3, if_neg (show ¬ (1 : Int32) = 0 by decide)]
      exact ⟨_, rfl, rfl⟩
theorem op_locate (hI : PI xs ys tk) (hN : NI xs ys tk kn ct na nb nc) (hR : f_F_refresh st xs ys ord pn row on fl ke fs mn li wa wn ri rn = some v) (hM : MI (TL (Sx tk) (ptf xs ys)) v.2.2.2.2.1 v.2.2.2.2.2.2.1) (x y : Int32) :
    ∃ (r kn' ct' : Int32) (na' nb' nc' : Nat → Int32), (f_F_locate st xs ys ord pn row on fl ke fs mn li wa wn ri rn x y = some (r, v) ∨ f_F_locate st xs ys ord pn row on fl ke fs mn li wa wn ri rn x y = some (r, st, row, on, fl, ke, fs, mn, li, wa, wn, ri, rn)) ∧ f_N_locate tk xs ys kn ct na nb nc x y = some (r, kn', ct', na', nb', nc') ∧ NI xs ys tk kn' ct' na' nb' nc' := by
  obtain ⟨kn', na', nb', nc', e, h1, h2⟩ := s_work hI hN
  have hlen : (TL (Sx tk) (ptf xs ys)).length ≤ 35 := hM.2.1
  unfold f_F_locate f_N_locate
  rw [e]
  rcases reach_cases x y with ⟨e1, e2, bX, bY⟩ | ⟨e1, e2⟩
  · obtain ⟨r, l1, l2⟩ := loc_loop (tk := tk) (ord := ord) (pn := pn) (st := v.1) (row := v.2.1) (on := v.2.2.1) (fl := v.2.2.2.1) (fs := v.2.2.2.2.2.1) (li := v.2.2.2.2.2.2.2.1) (wa := v.2.2.2.2.2.2.2.2.1) (wn := v.2.2.2.2.2.2.2.2.2.1) (ri := v.2.2.2.2.2.2.2.2.2.2.1) (rn := v.2.2.2.2.2.2.2.2.2.2.2) (kn := kn') hI.1 hI.2.1 hM h2 bX bY 600 0 (by omega) (Nat.zero_le _)
    rw [nI_0] at l1 l2
    rw [hR, e1]
    dsimp only [Option.bind]
    rw [l1, e2]
    dsimp only
    rw [l2, if_neg (show ¬ (1 : Int32) = 0 by decide), if_pos (show (0 : Int32) = 0 from Eq.refl 0)]
    exact ⟨_, _, _, _, _, _, Or.inl (Eq.refl _), Eq.refl _, fun _ => ⟨rfl, h2⟩⟩
  · generalize f_N_locate_L16 tk xs ys 600 = gN
    generalize f_F_locate_L16 xs ys ord pn 600 = gF
    rw [e1, e2]
    dsimp only [Option.bind]
    rw [if_pos (show (0 : Int32) = 0 from Eq.refl 0), if_neg (show ¬ (1 : Int32) = 0 by decide)]
    exact ⟨_, _, _, _, _, _, Or.inr (Eq.refl _), Eq.refl _, fun _ => ⟨rfl, h2⟩⟩
end Q
/-- how many sites lie on the circle of a triangle -/
def cocnt (xs ys tk : Nat → Int32) (t : Nat × Nat × Nat) (k : Nat) : Nat := ((List.range k).filter (fun d => tk d != 0 && decide (inc (ptf xs ys t.1) (ptf xs ys t.2.1) (ptf xs ys t.2.2) (ptf xs ys d) = 0))).length
theorem cnr_loop {xs ys tk na nb nc : Nat → Int32} {kn ct : Int32} (hx : B6 xs) (hy : B6 ys) {j : Nat} {t : Nat × Nat × Nat} (hj : j < 40) (g : na j = nI t.1 ∧ nb j = nI t.2.1 ∧ nc j = nI t.2.2) (h20 : t.1 < 20 ∧ t.2.1 < 20 ∧ t.2.2 < 20) : ∀ (n k : Nat), 20 - k < n → k ≤ 20 →
    f_N_corners_L22 tk xs ys n kn ct na nb nc (nI j) (nI (cocnt xs ys tk t k)) (nI k) = some (nI (cocnt xs ys tk t 20), kn, ct, na, nb, nc) := by
  intro n
  induction n with
  | zero => intro k h; exact absurd h (Nat.not_lt_zero _)
  | succ n ih =>
    intro k hn hk
    rw [f_N_corners_L22]
    by_cases e : k = 20
    · rw [if_pos (ge20 e), e]
    · have hk : k < 20 := by omega
      have ih' := ih (k + 1) (by omega) (by omega)
      have st : cocnt xs ys tk t (k + 1) = cocnt xs ys tk t k + ([k].filter (fun d => tk d != 0 && decide (inc (ptf xs ys t.1) (ptf xs ys t.2.1) (ptf xs ys t.2.2) (ptf xs ys d) = 0))).length := by
        unfold cocnt
        rw [List.range_succ, List.filter_append, List.length_append]
      rw [if_neg (lt20 hk)]
      simp only [if_pos (ix_nI hk (by decide)), cl_nI hk (by decide), nI_1, f_N_corners_b68, f_N_corners_b69, if_pos (ix_nI hj (by decide)), cl_nI hj (by decide), g.1, g.2.1, g.2.2, s_Ncirc hx hy h20.1 h20.2.1 h20.2.2 hk, Option.bind]
      have z0 : ∀ z : Int32, z + 0 = z := fun z => by simp
      by_cases h1 : tk k = 0
      · rw [if_pos h1, z0]
        have e2 : ([k].filter (fun d => tk d != 0 && decide (inc (ptf xs ys t.1) (ptf xs ys t.2.1) (ptf xs ys t.2.2) (ptf xs ys d) = 0))) = [] := by simp [h1]
        rw [st, e2] at ih'
        exact ih'
      · rw [if_neg h1]
        by_cases h2 : inc (ptf xs ys t.1) (ptf xs ys t.2.1) (ptf xs ys t.2.2) (ptf xs ys k) = 0
        · have e2 : ([k].filter (fun d => tk d != 0 && decide (inc (ptf xs ys t.1) (ptf xs ys t.2.1) (ptf xs ys t.2.2) (ptf xs ys d) = 0))) = [k] := by simp [h1, h2]
          rw [st, e2] at ih'
          rw [h2, sg_zero, if_pos (Eq.refl _)]
          exact ih'
        · have e2 : ([k].filter (fun d => tk d != 0 && decide (inc (ptf xs ys t.1) (ptf xs ys t.2.1) (ptf xs ys t.2.2) (ptf xs ys d) = 0))) = [] := by simp [h2]
          rw [st, e2] at ih'
          have hs : ¬ sg (inc (ptf xs ys t.1) (ptf xs ys t.2.1) (ptf xs ys t.2.2) (ptf xs ys k)) = 0 := by
            rcases sg_cases (inc (ptf xs ys t.1) (ptf xs ys t.2.1) (ptf xs ys t.2.2) (ptf xs ys k)) with ⟨h, e⟩ | ⟨h, e⟩ | ⟨h, e⟩
            · rw [e]; decide
            · exact absurd h h2
            · rw [e]; decide
          rw [if_neg hs, z0]
          exact ih'
