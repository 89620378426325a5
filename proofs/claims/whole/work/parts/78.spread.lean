/-! spread: from face to face, until nothing waits. -/
section P
variable {xs ys tk ord : Nat → Int32} {pn : Int32} {od B : List Nat}
theorem s_apexOver (hx : B6 xs) (hy : B6 ys) (h20 : od.length ≤ 20) (hm : ∀ a ∈ od, a < 20) (ho : ∀ k, k < od.length → ord k = nI (od.getD k 0)) (hpn : pn = nI od.length) {f t : Nat} (hf : f < 20) (ht : t < 20) :
    (f_M_apexOver xs ys ord pn (nI f) (nI t) = some (-1) ∧ ∀ d ∈ od, ori (ptf xs ys f) (ptf xs ys t) (ptf xs ys d) ≤ 0) ∨ ∃ a, a ∈ od ∧ f_M_apexOver xs ys ord pn (nI f) (nI t) = some (nI a) ∧ 0 < ori (ptf xs ys f) (ptf xs ys t) (ptf xs ys a) ∧ ∀ d ∈ od, 0 < ori (ptf xs ys f) (ptf xs ys t) (ptf xs ys d) → inc (ptf xs ys f) (ptf xs ys t) (ptf xs ys a) (ptf xs ys d) ≤ 0 := by
  have h := apex_loop hx hy h20 hm ho hpn hf ht 600 0 (-1) (by omega) (Nat.zero_le _) (Or.inl ⟨rfl, fun j hj => absurd hj (Nat.not_lt_zero _)⟩)
  rw [nI_0] at h
  exact h
theorem cocnt_len {R : List Nat} {t : Nat × Nat × Nat} (hS : ∀ i, tk i ≠ 0 ↔ i ∈ od) (hm : ∀ a ∈ od, a < 20) (hnd : R.Nodup) (hR : ∀ d, d ∈ R ↔ d ∈ od ∧ inc (ptf xs ys t.1) (ptf xs ys t.2.1) (ptf xs ys t.2.2) (ptf xs ys d) = 0) : cocnt xs ys tk t 20 = R.length := by
  unfold cocnt
  have hmem : ∀ d, d ∈ (List.range 20).filter (fun d => tk d != 0 && decide (inc (ptf xs ys t.1) (ptf xs ys t.2.1) (ptf xs ys t.2.2) (ptf xs ys d) = 0)) ↔ d ∈ R := by
    intro d
    rw [List.mem_filter, hR d, List.mem_range, Bool.and_eq_true, bne_iff_ne, decide_eq_true_eq, hS d]
    exact ⟨fun q => q.2, fun q => ⟨hm d q.1, q⟩⟩
  have n1 : ((List.range 20).filter (fun d => tk d != 0 && decide (inc (ptf xs ys t.1) (ptf xs ys t.2.1) (ptf xs ys t.2.2) (ptf xs ys d) = 0))).Nodup := List.Pairwise.filter _ List.nodup_range
  exact Nat.le_antisymm (List.Nodup.length_le_of_subset n1 (fun d hd => (hmem d).mp hd)) (List.Nodup.length_le_of_subset hnd (fun d hd => (hmem d).mpr hd))
/-- the faces that are found, what is linked, and the rows -/
def Inv (xs ys tk : Nat → Int32) (od B : List Nat) (Fd : List Nat → Prop) (lk : Nat → Nat → Prop) (KL : List (Nat × Nat × Nat)) (ke fs li : Nat → Int32) : Prop :=
  (∀ R, Fd R → ∃ f t a, Emp (ptf xs ys) od f t a ∧ Rg (ptf xs ys) od R f t a) ∧ (∀ x y, lk x y ↔ BE B y x ∨ ∃ R, Fd R ∧ RE R x y) ∧ (∀ u, u ∈ KL ↔ ∃ R, Fd R ∧ Fan R u) ∧ KI (fun t => cocnt xs ys tk t 20) KL ke fs ∧ LK lk li
theorem fan_edge' {R : List Nat} {u : Nat × Nat × Nat} (h : Fan R u) : RE R u.2.1 u.2.2 := by
  obtain ⟨i, h1, h2, e⟩ := h
  rw [e]
  exact fan_edge h1 h2
theorem face_step (hx : B6 xs) (hy : B6 ys) (h20 : od.length ≤ 20) (hm : ∀ a ∈ od, a < 20) (ho : ∀ k, k < od.length → ord k = nI (od.getD k 0)) (hpn : pn = nI od.length) (hp : od.Pairwise (fun a b => lex (ptf xs ys a) (ptf xs ys b))) (hS : ∀ i, tk i ≠ 0 ↔ i ∈ od)
    (hBE : ∀ x y, BE B x y ↔ x ∈ od ∧ y ∈ od ∧ Nx (ptf xs ys) (fun r => r ∈ od) x y) (hC : ∀ D : List (Nat × Nat), D.Nodup → (∀ p ∈ D, DE (ptf xs ys) od B p) → D.length ≤ 108) (hT : ∀ l : List (Nat × Nat × Nat), l.Nodup → (∀ u ∈ l, isT (Sx tk) (ptf xs ys) u.1 u.2.1 u.2.2) → l.length ≤ 35)
    {Fd : List Nat → Prop} {lk : Nat → Nat → Prop} {KL : List (Nat × Nat × Nat)} {ke fs li wa ri : Nat → Int32} {rn : Int32} {c f t a : Nat} {W D : List (Nat × Nat)} (hI : Inv xs ys tk od B Fd lk KL ke fs li) (hW : WS (ptf xs ys) od B lk c W D wa) (hF : FE (ptf xs ys) od f t a) (hnl : ¬ lk f t) :
    ∃ (ri' ke' fs' li' wa' : Nat → Int32) (R : List Nat) (KL' : List (Nat × Nat × Nat)) (W' D' : List (Nat × Nat)), f_M_gatherRing xs ys ord pn ri rn (nI f) (nI t) (nI a) = some (ri', nI R.length) ∧ f_M_addFace ke fs (nI KL.length) li wa (nI W.length) ri' (nI R.length) = some (ke', fs', nI KL'.length, li', wa', nI W'.length) ∧ RE R f t ∧ Inv xs ys tk od B (fun R' => R' = R ∨ Fd R') (fun x y => lk x y ∨ RE R x y) KL' ke' fs' li' ∧ WS (ptf xs ys) od B (fun x y => lk x y ∨ RE R x y) c W' D' wa' ∧ (∀ q ∈ W, q ∈ W') ∧ ∀ x y, RE R x y → lk y x ∨ (y, x) ∈ W' := by
  obtain ⟨i1, i2, i3, i4, i5⟩ := hI
  have hE := hF.1
  obtain ⟨ri', R, eg, hH, hR⟩ := s_gather hx hy h20 hm ho hpn hp hE ri rn
  have hre := FE_RE hF hR
  have hnd := RS_nodup hR.2
  have hRo : ∀ x ∈ R, x ∈ od := fun x hx => ((hR.1 x).mp hx).1
  have hR20 : ∀ x ∈ R, x < 20 := fun x hx => hm x (hRo x hx)
  have hRl : R.length ≤ 20 := od_len hnd hR20
  have h3 := rg_len hE hR
  have notlk : ∀ x y, RE R x y → ¬ lk x y := by
    intro x y h q
    rcases (i2 x y).mp q with k | ⟨R', k1, k2⟩
    · obtain ⟨-, -, k⟩ := (hBE y x).mp k
      obtain ⟨-, -, -, z, hz, zx, zy⟩ := RE_ne hE hR h
      have a1 := RE_left hE hR h hz zx zy
      have a2 := k.2.1 z (hRo z hz)
      rw [ori_swap] at a2
      omega
    · obtain ⟨f', t', a', hE', hR'⟩ := i1 R' k1
      have hmm := RE_uniq hE hR hE' hR' h k2
      exact hnl ((i2 f t).mpr (Or.inr ⟨R', k1, RE_same hE hR hE' hR' hmm hre⟩))
  have hfe : ∀ x y, RE R x y → ∃ z, FE (ptf xs ys) od x y z := fun x y h => by
    obtain ⟨z, -, k, -⟩ := RE_FE hE hR h
    exact ⟨z, k⟩
  have hbk : ∀ x y, RE R x y → ¬ lk y x → ∃ z, FE (ptf xs ys) od y x z := by
    intro x y h q
    obtain ⟨z, hz⟩ := hfe x y h
    by_cases k : ∃ d ∈ od, ori (ptf xs ys x) (ptf xs ys y) (ptf xs ys d) < 0
    · exact across_FE hz k
    · exfalso
      have hN := side_Nx hp hz (fun d hd => Int.not_lt.mp (fun r => k ⟨d, hd, r⟩))
      exact q ((i2 y x).mpr (Or.inl ((hBE x y).mpr ⟨hz.1.1, hz.1.2.1, hN⟩)))
  have hS' : ∀ i, Sx tk i ↔ i ∈ od := hS
  have hfan : ∀ j, 2 ≤ j → j < R.length → isT (Sx tk) (ptf xs ys) (fanT R j).1 (fanT R j).2.1 (fanT R j).2.2 := fun j h1 h2 => (fan_isT hS' hE hR h1 h2).1
  have hPK : ∀ u ∈ KL, isT (Sx tk) (ptf xs ys) u.1 u.2.1 u.2.2 := by
    intro u hu
    obtain ⟨R', k1, j, j1, j2, e⟩ := (i3 u).mp hu
    obtain ⟨f', t', a', hE', hR'⟩ := i1 R' k1
    rw [e]
    exact (fan_isT hS' hE' hR' j1 j2).1
  have hnew : ∀ j, 2 ≤ j → j < R.length → fanT R j ∉ KL := by
    intro j h1 h2 q
    obtain ⟨R', k1, k2⟩ := (i3 _).mp q
    exact notlk _ _ (fan_edge h1 h2) ((i2 _ _).mpr (Or.inr ⟨R', k1, fan_edge' k2⟩))
  obtain ⟨ke', fs', KL', e2, K', M'⟩ := fan_loop (c := fun t => cocnt xs ys tk t 20) (P := fun u => isT (Sx tk) (ptf xs ys) u.1 u.2.1 u.2.2) (li := li) (wa := wa) (wn := nI W.length) (fun u hu => ⟨hm _ ((hS' _).mp hu.1), hm _ ((hS' _).mp hu.2.1), hm _ ((hS' _).mp hu.2.2.1)⟩) hT hH hRl hnd (fun j h1 h2 => cocnt_len (t := fanT R j) hS hm hnd (fan_isT hS' hE hR h1 h2).2) hfan hPK hnew 600 2 ke fs KL (by omega) (Nat.le_refl _) (by omega) i4 (fun u => ⟨Or.inl, fun q => q.elim id (fun ⟨j, j1, j2, _⟩ => by omega)⟩)
  have heq0 : (fun x y => lk x y ∨ ∃ j, j < 0 ∧ x = R.getD j 0 ∧ y = R.getD (nxt R j) 0) = lk := by
    funext x y
    apply propext
    exact ⟨fun q => q.elim id (fun ⟨j, hj, _⟩ => absurd hj (Nat.not_lt_zero _)), Or.inl⟩
  obtain ⟨li', wa', W', D', e3, L', S', c1, c2⟩ := ring_links (pt := ptf xs ys) (od := od) (B := B) (c := c) (ke := ke') (fs := fs') (mn := nI KL'.length) (W0 := W) (lk0 := lk) hC hH hR20 hRl hnd notlk (fun x y h => RE_anti hE hR h) (fun x y h => (RE_ne hE hR h).2.2.1) hfe hbk 600 0 li wa W D (by omega) (Nat.zero_le _) (by rw [heq0]; exact i5) (by rw [heq0]; exact hW) (fun q hq => hq) (fun j hj => absurd hj (Nat.not_lt_zero _))
  refine ⟨ri', ke', fs', li', wa', R, KL', W', D', eg, ?_, hre, ⟨?_, ?_, ?_, K', L'⟩, S', c1, c2⟩
  · have n2 : nI 2 = 2 := by decide
    rw [n2] at e2
    rw [nI_0] at e3
    unfold f_M_addFace
    rw [e2]
    exact e3
  · rintro R' (q | q)
    · rw [q]; exact ⟨f, t, a, hE, hR⟩
    · exact i1 R' q
  · intro x y
    dsimp only
    rw [i2 x y]
    constructor
    · rintro ((q | ⟨R', k1, k2⟩) | q)
      · exact Or.inl q
      · exact Or.inr ⟨R', Or.inr k1, k2⟩
      · exact Or.inr ⟨R, Or.inl rfl, q⟩
    · rintro (q | ⟨R', k1 | k1, k2⟩)
      · exact Or.inl (Or.inl q)
      · rw [k1] at k2; exact Or.inr k2
      · exact Or.inl (Or.inr ⟨R', k1, k2⟩)
  · intro u
    rw [M' u, i3 u]
    constructor
    · rintro (⟨R', k1, k2⟩ | q)
      · exact ⟨R', Or.inr k1, k2⟩
      · exact ⟨R, Or.inl rfl, q⟩
    · rintro ⟨R', k1 | k1, k2⟩
      · rw [k1] at k2; exact Or.inr k2
      · exact Or.inl ⟨R', k1, k2⟩
theorem spread_loop (hx : B6 xs) (hy : B6 ys) (h20 : od.length ≤ 20) (hm : ∀ a ∈ od, a < 20) (ho : ∀ k, k < od.length → ord k = nI (od.getD k 0)) (hpn : pn = nI od.length) (hp : od.Pairwise (fun a b => lex (ptf xs ys a) (ptf xs ys b))) (hS : ∀ i, tk i ≠ 0 ↔ i ∈ od)
    (hBE : ∀ x y, BE B x y ↔ x ∈ od ∧ y ∈ od ∧ Nx (ptf xs ys) (fun r => r ∈ od) x y) (hC : ∀ D : List (Nat × Nat), D.Nodup → (∀ p ∈ D, DE (ptf xs ys) od B p) → D.length ≤ 108) (hT : ∀ l : List (Nat × Nat × Nat), l.Nodup → (∀ u ∈ l, isT (Sx tk) (ptf xs ys) u.1 u.2.1 u.2.2) → l.length ≤ 35) :
    ∀ (n c : Nat) (ke fs li wa ri : Nat → Int32) (rn : Int32) (W D : List (Nat × Nat)) (Fd : List Nat → Prop) (lk : Nat → Nat → Prop) (KL : List (Nat × Nat × Nat)), 54 - c < n → Inv xs ys tk od B Fd lk KL ke fs li → WS (ptf xs ys) od B lk c W D wa → (∀ x y, lk y x → lk x y ∨ (x, y) ∈ W) →
    ∃ (ke' fs' li' wa' ri' : Nat → Int32) (wn' rn' : Int32) (Fd' : List Nat → Prop) (lk' : Nat → Nat → Prop) (KL' : List (Nat × Nat × Nat)), f_M_spread_L2 xs ys ord pn n ke fs (nI KL.length) li wa (nI W.length) ri rn (nI c) = some (ke', fs', nI KL'.length, li', wa', wn', ri', rn') ∧ Inv xs ys tk od B Fd' lk' KL' ke' fs' li' ∧ ∀ x y, lk' y x → lk' x y := by
  have e54 : (54 : Int32) = nI 54 := by decide
  intro n
  induction n with
  | zero => intro c ke fs li wa ri rn W D Fd lk KL h; exact absurd h (Nat.not_lt_zero _)
  | succ n ih =>
    intro c ke fs li wa ri rn W D Fd lk KL hn hI hW hcl
    have hW' := hW
    obtain ⟨w1, w2, w3, w4, w5⟩ := hW
    have hD := hC D w2 (fun p hp => (w4 p hp).2)
    have hWc : W.length + c ≤ 54 := by omega
    have done : W.length = 0 → ∃ (ke' fs' li' wa' ri' : Nat → Int32) (wn' rn' : Int32) (Fd' : List Nat → Prop) (lk' : Nat → Nat → Prop) (KL' : List (Nat × Nat × Nat)), some (ke, fs, nI KL.length, li, wa, nI W.length, ri, rn) = some (ke', fs', nI KL'.length, li', wa', wn', ri', rn') ∧ Inv xs ys tk od B Fd' lk' KL' ke' fs' li' ∧ ∀ x y, lk' y x → lk' x y := by
      intro hw
      refine ⟨ke, fs, li, wa, ri, nI W.length, rn, Fd, lk, KL, rfl, hI, fun x y q => (hcl x y q).resolve_right (fun r => ?_)⟩
      have : 0 < W.length := List.length_pos_of_mem r
      omega
    rw [f_M_spread_L2]
    by_cases hc : 54 ≤ c
    · rw [if_pos (show (54 : Int32) ≤ nI c by rw [e54]; exact nI_le hc (by omega))]
      exact done (by omega)
    rw [if_neg (show ¬ (54 : Int32) ≤ nI c by rw [e54]; exact nI_ge (by omega) (by omega))]
    by_cases hw0 : W.length = 0
    · rw [if_pos (show nI W.length ≤ 0 by rw [hw0, nI_0]; decide)]
      exact done hw0
    rw [if_neg (nI_nle (by omega) (by omega))]
    obtain ⟨w, ew⟩ : ∃ w, W.length = w + 1 := ⟨W.length - 1, by omega⟩
    have hpm : W.getD w (0, 0) ∈ W := gD_mem (by omega)
    have hwa := w1 w (by omega)
    have hlast : ∀ q ∈ W, q ∈ W.take w ∨ q = W.getD w (0, 0) := by
      intro q hq
      obtain ⟨i, hi, e⟩ := gD_ix (d := (0, 0)) hq
      by_cases z : i = w
      · rw [z] at e; exact Or.inr e.symm
      · refine Or.inl ?_
        rw [← e]
        have hi' : i < (W.take w).length := by rw [List.length_take]; omega
        have : (W.take w).getD i (0, 0) = W.getD i (0, 0) := by
          rw [List.getD_eq_getElem?_getD, List.getD_eq_getElem?_getD, List.getElem?_take, if_pos (by omega)]
        rw [← this]
        exact gD_mem hi'
    have hwl : (W.take w).length = w := by rw [List.length_take]; omega
    have hWS : WS (ptf xs ys) od B lk (c + 1) (W.take w) D wa := by
      refine ⟨fun k hk => ?_, w2, by rw [w3, hwl, ew]; omega, w4, fun p hp => w5 p (List.mem_of_mem_take hp)⟩
      rw [hwl] at hk
      rw [w1 k (by omega), List.getD_eq_getElem?_getD, List.getD_eq_getElem?_getD, List.getElem?_take, if_pos hk]
    obtain ⟨hlk, z0, hz0⟩ := w5 _ hpm
    generalize hpp : W.getD w (0, 0) = p at hpm hwa hlast hlk hz0
    have b1 := hm _ hz0.1.1
    have b2 := hm _ hz0.1.2.1
    have s1 : nI (p.1 * 32 + p.2) >>> ((5 : Int32) &&& 31) = nI p.1 := by
      rw [pk_shrN (by omega) _ 5 (by decide)]
      congr 1
      omega
    have s2 : nI (p.1 * 32 + p.2) &&& (31 : Int32) = nI p.2 := by
      rw [pk_andN (by omega) 5 (by decide)]
      congr 1
      omega
    have em : nI W.length - 1 = nI w := by rw [ew]; exact nI_pred w
    rw [em, if_pos (ix_nI (show w < 54 by omega) (by decide)), if_pos (ix_nI (show w < 54 by omega) (by decide)), cl_nI (show w < 54 by omega) (by decide), hwa, s1, s2]
    rcases s_isLinked hI.2.2.2.2 b1 b2 with ⟨f2, k⟩ | ⟨f2, k⟩
    · rw [f2]
      dsimp only [Option.bind]
      rw [if_neg (show ¬ (1 : Int32) = 0 by decide)]
      unfold f_M_spread_b72
      rw [if_pos (Eq.refl (-1 : Int32)), nI_1]
      have fin := ih (c + 1) ke fs li wa ri rn (W.take w) D Fd lk KL (by omega) hI hWS (fun x y q => by
        rcases hcl x y q with r | r
        · exact Or.inl r
        · rcases hlast _ r with r | r
          · exact Or.inr r
          · rw [← r] at k; exact Or.inl k)
      rw [hwl] at fin
      exact fin
    · have hG : GE (ptf xs ys) od p.1 p.2 := by
        rcases (hI.2.1 _ _).mp hlk with q | ⟨R', q1, q2⟩
        · exact Or.inl ((hBE _ _).mp q).2.2
        · obtain ⟨f', t', a', hE', hR'⟩ := hI.1 R' q1
          obtain ⟨z, -, q3, -⟩ := RE_FE hE' hR' q2
          exact Or.inr ⟨z, q3⟩
      rcases s_apexOver hx hy h20 hm ho hpn b1 b2 with ⟨-, q⟩ | ⟨a, ha, fa, oa, hl⟩
      · have := q z0 hz0.1.2.2.1
        have := hz0.1.2.2.2.1
        omega
      · have hF := apex_FE hz0.1.1 hz0.1.2.1 hG ha oa hl
        obtain ⟨ri', ke', fs', li', wa', R, KL', W', D', e1, e2, hre, I', S', c1, c2⟩ := face_step (ri := ri) (rn := rn) hx hy h20 hm ho hpn hp hS hBE hC hT hI hWS hF k
        rw [hwl] at e2
        rw [f2]
        dsimp only [Option.bind]
        rw [if_pos (Eq.refl (0 : Int32)), fa]
        dsimp only
        unfold f_M_spread_b72
        rw [if_neg (neg1 (hm a ha)), e1]
        dsimp only [Option.bind]
        rw [e2]
        dsimp only
        rw [nI_1]
        refine ih (c + 1) ke' fs' li' wa' ri' (nI R.length) W' D' _ _ KL' (by omega) I' S' (fun x y q => ?_)
        rcases q with q | q
        · rcases hcl x y q with r | r
          · exact Or.inl (Or.inl r)
          · rcases hlast _ r with r | r
            · exact Or.inr (c1 _ r)
            · rw [← r] at hre; exact Or.inl (Or.inr hre)
        · rcases c2 y x q with r | r
          · exact Or.inl (Or.inl r)
          · exact Or.inr r
end P
