/-! addFace's second half: the ring's edges linked, those behind them awaited. -/
def DE (pt : Nat → Int × Int) (od B : List Nat) (p : Nat × Nat) : Prop := (∃ z, FE pt od p.1 p.2 z) ∨ BE B p.2 p.1
/-- what waits (W), and both ways of every edge that ever waited (D); c of them are gone -/
def WS (pt : Nat → Int × Int) (od B : List Nat) (lk : Nat → Nat → Prop) (c : Nat) (W D : List (Nat × Nat)) (wa : Nat → Int32) : Prop :=
  (∀ k, k < W.length → wa k = nI ((W.getD k (0, 0)).1 * 32 + (W.getD k (0, 0)).2)) ∧ D.Nodup ∧ D.length = 2 * (W.length + c) ∧ (∀ p ∈ D, (lk p.1 p.2 ∨ lk p.2 p.1) ∧ DE pt od B p) ∧ ∀ p ∈ W, lk p.2 p.1 ∧ ∃ z, FE pt od p.1 p.2 z
theorem LK_congr {lk lk' : Nat → Nat → Prop} {li : Nat → Int32} (h : LK lk li) (he : ∀ x y, lk x y ↔ lk' x y) : LK lk' li := by
  have : lk = lk' := by
    funext x y
    exact propext (he x y)
  rw [← this]
  exact h
section S
variable {pt : Nat → Int × Int} {od B : List Nat} {lk : Nat → Nat → Prop} {c : Nat} {W D : List (Nat × Nat)} {ri li wa ke fs : Nat → Int32} {rn mn : Int32}
theorem edge_step {k42 : (Nat → Int32) → (Nat → Int32) → Int32 → (Nat → Int32) → (Nat → Int32) → Int32 → Int32 → Option ((Nat → Int32) × (Nat → Int32) × Int32 × (Nat → Int32) × (Nat → Int32) × Int32)} {x y z i : Nat} (hC : ∀ D : List (Nat × Nat), D.Nodup → (∀ p ∈ D, DE pt od B p) → D.length ≤ 108) (hL : LK lk li) (hx : x < 20) (hy : y < 20) (hz : z < 20) (hri : ri z = nI y) (hW : WS pt od B lk c W D wa) (hxy : ¬ lk x y) (hne : x ≠ y) (hfe : ∃ z, FE pt od x y z) (hbk : ¬ lk y x → ∃ z, FE pt od y x z) :
    ∃ (li' wa' : Nat → Int32) (W' D' : List (Nat × Nat)), f_M_addFace_b78 k42 ri rn ke fs mn li wa (nI W.length) (nI i) (nI x) (nI z) = k42 ke fs mn li' wa' (nI W'.length) (nI (i + 1)) ∧ LK (fun u v => lk u v ∨ (u = x ∧ v = y)) li' ∧ WS pt od B (fun u v => lk u v ∨ (u = x ∧ v = y)) c W' D' wa' ∧ (∀ q ∈ W, q ∈ W') ∧ (lk y x ∨ (y, x) ∈ W') := by
  obtain ⟨w1, w2, w3, w4, w5⟩ := hW
  obtain ⟨li1, f1, L1⟩ := s_link hL hx hy
  unfold f_M_addFace_b78
  rw [if_pos (ix_nI hz (by decide)), cl_nI hz (by decide), hri, f1]
  dsimp only [Option.bind]
  rw [nI_1]
  have m4 : ∀ p ∈ D, ((lk p.1 p.2 ∨ (p.1 = x ∧ p.2 = y)) ∨ (lk p.2 p.1 ∨ (p.2 = x ∧ p.1 = y))) ∧ DE pt od B p := fun p hp => ⟨(w4 p hp).1.elim (fun q => Or.inl (Or.inl q)) (fun q => Or.inr (Or.inl q)), (w4 p hp).2⟩
  have m5 : ∀ p ∈ W, (lk p.2 p.1 ∨ (p.2 = x ∧ p.1 = y)) ∧ ∃ z, FE pt od p.1 p.2 z := fun p hp => ⟨Or.inl (w5 p hp).1, (w5 p hp).2⟩
  rcases s_isLinked L1 hy hx with ⟨f2, k⟩ | ⟨f2, k⟩
  · rw [f2]
    dsimp only
    rw [if_neg (show ¬ (1 : Int32) = 0 by decide)]
    refine ⟨li1, wa, W, D, rfl, L1, ⟨w1, w2, w3, m4, m5⟩, fun q hq => hq, Or.inl ?_⟩
    rcases k with k | k
    · exact k
    · exact absurd k.1.symm hne
  · have hyx : ¬ lk y x := fun q => k (Or.inl q)
    have n1 : (x, y) ∉ D := by
      intro q
      rcases (w4 _ q).1 with r | r
      · exact hxy r
      · exact hyx r
    have n2 : (y, x) ∉ (x, y) :: D := by
      intro q
      rcases List.mem_cons.mp q with r | r
      · exact hne (congrArg Prod.snd r)
      · rcases (w4 _ r).1 with r | r
        · exact hyx r
        · exact hxy r
    have dx : DE pt od B (x, y) := Or.inl hfe
    have dy : DE pt od B (y, x) := Or.inl (hbk hyx)
    have nd : ((y, x) :: (x, y) :: D).Nodup := List.nodup_cons.mpr ⟨n2, List.nodup_cons.mpr ⟨n1, w2⟩⟩
    have hall : ∀ p ∈ (y, x) :: (x, y) :: D, ((lk p.1 p.2 ∨ (p.1 = x ∧ p.2 = y)) ∨ (lk p.2 p.1 ∨ (p.2 = x ∧ p.1 = y))) ∧ DE pt od B p := by
      intro p hp
      rcases List.mem_cons.mp hp with r | r
      · rw [r]; exact ⟨Or.inr (Or.inr ⟨rfl, rfl⟩), dy⟩
      · rcases List.mem_cons.mp r with r | r
        · rw [r]; exact ⟨Or.inl (Or.inr ⟨rfl, rfl⟩), dx⟩
        · exact m4 p r
    have hlen := hC _ nd (fun p hp => (hall p hp).2)
    rw [List.length_cons, List.length_cons, w3] at hlen
    have hw : W.length < 54 := by omega
    rw [f2]
    dsimp only
    rw [if_pos (Eq.refl (0 : Int32)), s_await hw hy hx]
    dsimp only
    refine ⟨li1, upd wa W.length (nI (y * 32 + x)), W ++ [(y, x)], (y, x) :: (x, y) :: D, ?_, L1, ⟨?_, nd, ?_, hall, ?_⟩, fun q hq => List.mem_append_left _ hq, Or.inr (List.mem_append_right _ (by simp))⟩
    · rw [List.length_append, List.length_singleton]
    · intro j hj
      rw [List.length_append, List.length_singleton] at hj
      by_cases e : j = W.length
      · subst e
        rw [upd_s, List.getD_eq_getElem?_getD, List.getElem?_append_right (Nat.le_refl _), Nat.sub_self]
        rfl
      · rw [upd_n e, w1 j (by omega), List.getD_eq_getElem?_getD, List.getD_eq_getElem?_getD, List.getElem?_append_left (by omega)]
    · rw [List.length_cons, List.length_cons, w3, List.length_append, List.length_singleton]
      omega
    · intro p hp
      rcases List.mem_append.mp hp with r | r
      · exact m5 p r
      · have : p = (y, x) := by simpa using r
        rw [this]
        exact ⟨Or.inr ⟨rfl, rfl⟩, hbk hyx⟩
def nxt (R : List Nat) (i : Nat) : Nat := if i + 1 < R.length then i + 1 else 0
theorem ring_links {R : List Nat} {W0 : List (Nat × Nat)} {lk0 : Nat → Nat → Prop} (hC : ∀ D : List (Nat × Nat), D.Nodup → (∀ p ∈ D, DE pt od B p) → D.length ≤ 108) (hH : HL R ri) (hR20 : ∀ x ∈ R, x < 20) (hRl : R.length ≤ 20) (hnd : R.Nodup)
    (hnl : ∀ x y, RE R x y → ¬ lk0 x y) (hanti : ∀ x y, RE R x y → ¬ RE R y x) (hrn : ∀ x y, RE R x y → x ≠ y) (hfe : ∀ x y, RE R x y → ∃ z, FE pt od x y z) (hbk : ∀ x y, RE R x y → ¬ lk0 y x → ∃ z, FE pt od y x z) :
    ∀ (n i : Nat) (li wa : Nat → Int32) (W D : List (Nat × Nat)), R.length - i < n → i ≤ R.length → LK (fun x y => lk0 x y ∨ ∃ j, j < i ∧ x = R.getD j 0 ∧ y = R.getD (nxt R j) 0) li → WS pt od B (fun x y => lk0 x y ∨ ∃ j, j < i ∧ x = R.getD j 0 ∧ y = R.getD (nxt R j) 0) c W D wa → (∀ q ∈ W0, q ∈ W) → (∀ j, j < i → lk0 (R.getD (nxt R j) 0) (R.getD j 0) ∨ (R.getD (nxt R j) 0, R.getD j 0) ∈ W) →
    ∃ (li' wa' : Nat → Int32) (W' D' : List (Nat × Nat)), f_M_addFace_L42 ri (nI R.length) n ke fs mn li wa (nI W.length) (nI i) = some (ke, fs, mn, li', wa', nI W'.length) ∧ LK (fun x y => lk0 x y ∨ RE R x y) li' ∧ WS pt od B (fun x y => lk0 x y ∨ RE R x y) c W' D' wa' ∧ (∀ q ∈ W0, q ∈ W') ∧ ∀ x y, RE R x y → lk0 y x ∨ (y, x) ∈ W' := by
  intro n
  induction n with
  | zero => intro i li wa W D h; exact absurd h (Nat.not_lt_zero _)
  | succ n ih =>
    intro i li wa W D hn hi hL hW hW0 hcl
    rw [f_M_addFace_L42]
    by_cases e : i = R.length
    · rw [if_pos (show nI R.length ≤ nI i from nI_le (by omega) (by omega))]
      have heq : ∀ x y, (lk0 x y ∨ ∃ j, j < i ∧ x = R.getD j 0 ∧ y = R.getD (nxt R j) 0) ↔ (lk0 x y ∨ RE R x y) := fun x y => by rw [e]; exact Iff.rfl
      have heq' : (fun x y => lk0 x y ∨ ∃ j, j < i ∧ x = R.getD j 0 ∧ y = R.getD (nxt R j) 0) = (fun x y => lk0 x y ∨ RE R x y) := by
        funext x y
        exact propext (heq x y)
      rw [heq'] at hL hW
      refine ⟨li, wa, W, D, rfl, hL, hW, hW0, fun x y h => ?_⟩
      obtain ⟨j, hj, e1, e2⟩ := h
      rw [e1, e2]
      exact hcl j (by omega)
    · have hi' : i < R.length := by omega
      have hre : RE R (R.getD i 0) (R.getD (nxt R i) 0) := ⟨i, hi', rfl, rfl⟩
      have hnx : nxt R i < R.length := by unfold nxt; split <;> omega
      have bx := hR20 _ (getD_mem hi')
      have bY := hR20 _ (getD_mem hnx)
      have nxy : ¬ (lk0 (R.getD i 0) (R.getD (nxt R i) 0) ∨ ∃ j, j < i ∧ R.getD i 0 = R.getD j 0 ∧ R.getD (nxt R i) 0 = R.getD (nxt R j) 0) := by
        rintro (q | ⟨j, hj, q, -⟩)
        · exact hnl _ _ hre q
        · exact nd_ne hnd (show i ≠ j by omega) hi' (by omega) q
      have yx : (lk0 (R.getD (nxt R i) 0) (R.getD i 0) ∨ ∃ j, j < i ∧ R.getD (nxt R i) 0 = R.getD j 0 ∧ R.getD i 0 = R.getD (nxt R j) 0) → lk0 (R.getD (nxt R i) 0) (R.getD i 0) := by
        rintro (q | ⟨j, hj, q1, q2⟩)
        · exact q
        · exact absurd ⟨j, by omega, q1, q2⟩ (hanti _ _ hre)
      obtain ⟨li1, wa1, W1, D1, f1, L1, S1, c1, c2⟩ := edge_step (k42 := fun s_ke s_fs s_mn s_li s_wa s_wn x1 => f_M_addFace_L42 ri (nI R.length) n s_ke s_fs s_mn s_li s_wa s_wn x1) (rn := nI R.length) (ke := ke) (fs := fs) (mn := mn) (i := i) hC hL bx bY (show nxt R i < 20 by omega) (hH _ hnx) hW nxy (hrn _ _ hre) (hfe _ _ hre) (fun q => hbk _ _ hre (fun r => q (Or.inl r)))
      have heq : (fun x y => (lk0 x y ∨ ∃ j, j < i ∧ x = R.getD j 0 ∧ y = R.getD (nxt R j) 0) ∨ (x = R.getD i 0 ∧ y = R.getD (nxt R i) 0)) = (fun x y => lk0 x y ∨ ∃ j, j < i + 1 ∧ x = R.getD j 0 ∧ y = R.getD (nxt R j) 0) := by
        funext x y
        apply propext
        constructor
        · rintro ((q | ⟨j, hj, q⟩) | q)
          · exact Or.inl q
          · exact Or.inr ⟨j, by omega, q⟩
          · exact Or.inr ⟨i, by omega, q⟩
        · rintro (q | ⟨j, hj, q⟩)
          · exact Or.inl (Or.inl q)
          · by_cases z : j = i
            · rw [z] at q; exact Or.inr q
            · exact Or.inl (Or.inr ⟨j, by omega, q⟩)
      rw [heq] at L1 S1
      have fin := ih (i + 1) li1 wa1 W1 D1 (by omega) (by omega) L1 S1 (fun q hq => c1 q (hW0 q hq)) (fun j hj => by
        by_cases z : j = i
        · rw [z]
          rcases c2 with q | q
          · exact Or.inl (yx q)
          · exact Or.inr q
        · rcases hcl j (by omega) with q | q
          · exact Or.inl q
          · exact Or.inr (c1 _ q))
      rw [if_neg (nI_ge hi' (by omega)), if_pos (ix_nI (show i < 20 by omega) (by decide)), cl_nI (show i < 20 by omega) (by decide), hH i hi', nI_1]
      by_cases hl : i + 1 < R.length
      · have en : nxt R i = i + 1 := if_pos hl
        rw [if_neg (nI_ge hl (by omega))]
        rw [en] at f1
        rw [f1]
        exact fin
      · have en : nxt R i = 0 := if_neg hl
        rw [if_pos (show nI R.length ≤ nI (i + 1) from nI_le (by omega) (by omega))]
        rw [en, nI_0] at f1
        rw [f1]
        exact fin
end S
