/-! A face's ring: all sites of its circle, sorted as seen from the earliest. -/
def Emp (pt : Nat → Int × Int) (od : List Nat) (f t a : Nat) : Prop := f ∈ od ∧ t ∈ od ∧ a ∈ od ∧ 0 < ori (pt f) (pt t) (pt a) ∧ ∀ d ∈ od, inc (pt f) (pt t) (pt a) (pt d) ≤ 0
/-- an edge of a face, with a corner of the face on its left -/
def FE (pt : Nat → Int × Int) (od : List Nat) (f t a : Nat) : Prop := Emp pt od f t a ∧ ∀ d ∈ od, inc (pt f) (pt t) (pt a) (pt d) = 0 → 0 ≤ ori (pt f) (pt t) (pt d)
def RS (pt : Nat → Int × Int) : List Nat → Prop
  | [] => True
  | r :: l => (∀ x ∈ l, lex (pt r) (pt x)) ∧ l.Pairwise (fun x y => 0 < ori (pt r) (pt x) (pt y))
def Rg (pt : Nat → Int × Int) (od R : List Nat) (f t a : Nat) : Prop := (∀ d, d ∈ R ↔ d ∈ od ∧ inc (pt f) (pt t) (pt a) (pt d) = 0) ∧ RS pt R
def RE (R : List Nat) (x y : Nat) : Prop := ∃ i, i < R.length ∧ x = R.getD i 0 ∧ y = R.getD (if i + 1 < R.length then i + 1 else 0) 0
theorem RS_first {pt : Nat → Int × Int} {R : List Nat} (h : RS pt R) {i : Nat} (hi : 0 < i) (hl : i < R.length) : lex (pt (R.getD 0 0)) (pt (R.getD i 0)) := by
  cases R with
  | nil => exact absurd hl (Nat.not_lt_zero _)
  | cons r l =>
    cases i with
    | zero => omega
    | succ i =>
      rw [List.length_cons] at hl
      exact h.1 _ (getD_mem (show i < l.length by omega))
theorem RS_get {pt : Nat → Int × Int} {R : List Nat} (h : RS pt R) {i j : Nat} (hi : 0 < i) (hij : i < j) (hl : j < R.length) : 0 < ori (pt (R.getD 0 0)) (pt (R.getD i 0)) (pt (R.getD j 0)) := by
  cases R with
  | nil => exact absurd hl (Nat.not_lt_zero _)
  | cons r l =>
    cases i with
    | zero => omega
    | succ i =>
      cases j with
      | zero => omega
      | succ j =>
        rw [List.length_cons] at hl
        exact pw_get (R := fun x y => 0 < ori (pt r) (pt x) (pt y)) h.2 (show i < j by omega) (by omega)
theorem RS_nodup {pt : Nat → Int × Int} {R : List Nat} (h : RS pt R) : R.Nodup := by
  cases R with
  | nil => exact List.nodup_nil
  | cons r l =>
    rw [List.nodup_cons]
    refine ⟨fun q => lex_ir (h.1 r q), List.Pairwise.imp (fun hl e => ?_) h.2⟩
    rw [e, ori_abb] at hl
    omega
theorem nd_ne {R : List Nat} (h : R.Nodup) {i j : Nat} (hij : i ≠ j) (hi : i < R.length) (hj : j < R.length) : R.getD i 0 ≠ R.getD j 0 := by
  rcases Nat.lt_or_gt_of_ne hij with q | q
  · exact pw_get (R := fun a b => a ≠ b) h q hj
  · exact fun e => pw_get (R := fun a b => a ≠ b) h q hi e.symm
theorem sgn_le {u v o o' : Int} (h : u * o' = v * o) (ho : 0 < o) (ho' : 0 < o') (hu : u ≤ 0) : v ≤ 0 := by
  have k := Int.mul_nonpos_of_nonpos_of_nonneg hu (Int.le_of_lt ho')
  rcases Int.lt_or_le 0 v with q | q
  · have := Int.mul_pos q ho
    omega
  · exact q
theorem sgn_z {u v o o' : Int} (h : u * o' = v * o) (ho : 0 < o) (hu : u = 0) : v = 0 := by
  rw [hu, Int.zero_mul] at h
  exact (Int.mul_eq_zero.mp h.symm).resolve_right (by omega)
section R
variable {pt : Nat → Int × Int} {od R R' : List Nat} {f t a f' t' a' : Nat}
theorem rg_on (hE : Emp pt od f t a) (hR : Rg pt od R f t a) {x y z w : Nat} (hx : x ∈ R) (hy : y ∈ R) (hz : z ∈ R) (hw : w ∈ R) (h : ori (pt x) (pt y) (pt z) ≠ 0) : inc (pt x) (pt y) (pt z) (pt w) = 0 :=
  sgn_z (same_circle h ((hR.1 x).mp hx).2 ((hR.1 y).mp hy).2 ((hR.1 z).mp hz).2 (pt w)) hE.2.2.2.1 ((hR.1 w).mp hw).2
theorem rg_cyc (hE : Emp pt od f t a) (hR : Rg pt od R f t a) {i j k : Nat} (hij : i < j) (hjk : j < k) (hk : k < R.length) : 0 < ori (pt (R.getD i 0)) (pt (R.getD j 0)) (pt (R.getD k 0)) := by
  by_cases h0 : i = 0
  · subst h0
    exact RS_get hR.2 hij hjk hk
  · have a1 := RS_get hR.2 (i := i) (j := j) (by omega) hij (by omega)
    have a2 := RS_get hR.2 (i := j) (j := k) (by omega) hjk hk
    have a3 := RS_get hR.2 (i := i) (j := k) (by omega) (by omega) hk
    exact cyc_pos a1 a2 a3 (rg_on hE hR (getD_mem (by omega)) (getD_mem (by omega)) (getD_mem (by omega)) (getD_mem hk) (by omega))
theorem rg_len (hE : Emp pt od f t a) (hR : Rg pt od R f t a) : 3 ≤ R.length := by
  have o := hE.2.2.2.1
  have n1 : f ≠ t := fun e => by rw [e, ori_aab] at o; omega
  have n2 : f ≠ a := fun e => by rw [e, ori_aba] at o; omega
  have n3 : t ≠ a := fun e => by rw [e, ori_abb] at o; omega
  have hnd : [f, t, a].Nodup := by simp [n1, n2, n3]
  have := List.Nodup.length_le_of_subset hnd (l₂ := R) (fun x hx => by
    rcases List.mem_cons.mp hx with e | hx
    · rw [e]; exact (hR.1 f).mpr ⟨hE.1, inc_a _ _ _⟩
    rcases List.mem_cons.mp hx with e | hx
    · rw [e]; exact (hR.1 t).mpr ⟨hE.2.1, inc_b _ _ _⟩
    rcases List.mem_cons.mp hx with e | hx
    · rw [e]; exact (hR.1 a).mpr ⟨hE.2.2.1, inc_c _ _ _⟩
    · cases hx)
  exact this
theorem RE_left (hE : Emp pt od f t a) (hR : Rg pt od R f t a) {x y z : Nat} (h : RE R x y) (hz : z ∈ R) (zx : z ≠ x) (zy : z ≠ y) : 0 < ori (pt x) (pt y) (pt z) := by
  obtain ⟨i, hi, ex, ey⟩ := h
  obtain ⟨k, hk, ez⟩ := od_ix hz
  have h3 := rg_len hE hR
  subst ez
  by_cases hl : i + 1 < R.length
  · rw [if_pos hl] at ey
    subst ex ey
    rcases Nat.lt_trichotomy k i with q | q | q
    · have := rg_cyc hE hR q (show i < i + 1 by omega) hl
      rw [ori_rot (pt (R.getD k 0))]
      exact this
    · exact absurd (by rw [q]) zx
    · by_cases q2 : k = i + 1
      · exact absurd (by rw [q2]) zy
      · exact rg_cyc hE hR (show i < i + 1 by omega) (show i + 1 < k by omega) hk
  · rw [if_neg hl] at ey
    subst ex ey
    have k1 : k ≠ i := fun q => zx (by rw [q])
    have k0 : k ≠ 0 := fun q => zy (by rw [q])
    have := rg_cyc hE hR (show 0 < k by omega) (show k < i by omega) hi
    rw [← ori_rot]
    exact this
theorem RE_ne (hE : Emp pt od f t a) (hR : Rg pt od R f t a) {x y : Nat} (h : RE R x y) : x ∈ R ∧ y ∈ R ∧ x ≠ y ∧ ∃ z, z ∈ R ∧ z ≠ x ∧ z ≠ y := by
  obtain ⟨i, hi, ex, ey⟩ := h
  have h3 := rg_len hE hR
  have hnd := RS_nodup hR.2
  obtain ⟨j, hj, eij, ey⟩ : ∃ j, j < R.length ∧ i ≠ j ∧ y = R.getD j 0 := by
    refine ⟨_, ?_, ?_, ey⟩
    · split <;> omega
    · split <;> omega
  obtain ⟨k, hk, ki, kj⟩ : ∃ k, k < R.length ∧ k ≠ i ∧ k ≠ j := by
    by_cases a0 : 0 ≠ i ∧ 0 ≠ j
    · exact ⟨0, by omega, a0.1, a0.2⟩
    · by_cases a1 : 1 ≠ i ∧ 1 ≠ j
      · exact ⟨1, by omega, a1.1, a1.2⟩
      · exact ⟨2, by omega, by omega, by omega⟩
  subst ex ey
  exact ⟨getD_mem hi, getD_mem hj, nd_ne hnd eij hi hj, R.getD k 0, getD_mem hk, nd_ne hnd ki hk hi, nd_ne hnd kj hk hj⟩
theorem left_RE (hE : Emp pt od f t a) (hR : Rg pt od R f t a) {x y : Nat} (hx : x ∈ R) (hy : y ∈ R) (hxy : x ≠ y) (h : ∀ z ∈ R, 0 ≤ ori (pt x) (pt y) (pt z)) : RE R x y := by
  obtain ⟨i, hi, ex⟩ := od_ix hx
  obtain ⟨j, hj, ey⟩ := od_ix hy
  have h3 := rg_len hE hR
  subst ex ey
  rcases Nat.lt_trichotomy i j with q | q | q
  · by_cases q2 : j = i + 1
    · exact ⟨i, hi, rfl, by rw [if_pos (by omega), q2]⟩
    · exfalso
      have k1 := rg_cyc hE hR (show i < i + 1 by omega) (show i + 1 < j by omega) hj
      have k2 := h _ (getD_mem (show i + 1 < R.length by omega))
      rw [ori_sw2] at k2
      omega
  · exact absurd (by rw [q]) hxy
  · by_cases j0 : j = 0
    · subst j0
      by_cases il : i + 1 = R.length
      · exact ⟨i, hi, rfl, by rw [if_neg (by omega)]⟩
      · exfalso
        have k1 := rg_cyc hE hR (show 0 < i by omega) (show i < R.length - 1 by omega) (by omega)
        have k2 := h _ (getD_mem (show R.length - 1 < R.length by omega))
        rw [ori_swap] at k2
        omega
    · exfalso
      have k1 := rg_cyc hE hR (show 0 < j by omega) q hi
      have k2 := h _ (getD_mem (show 0 < R.length by omega))
      rw [ori_rot, ori_sw2] at k2
      omega
theorem RE_FE (hE : Emp pt od f t a) (hR : Rg pt od R f t a) {x y : Nat} (h : RE R x y) : ∃ z, z ∈ R ∧ FE pt od x y z ∧ Rg pt od R x y z := by
  obtain ⟨hx, hy, hxy, z, hz, zx, zy⟩ := RE_ne hE hR h
  have oz := RE_left hE hR h hz zx zy
  have sc := same_circle (Int.ne_of_gt oz) ((hR.1 x).mp hx).2 ((hR.1 y).mp hy).2 ((hR.1 z).mp hz).2
  have o := hE.2.2.2.1
  have back : ∀ d, inc (pt x) (pt y) (pt z) (pt d) = 0 → inc (pt f) (pt t) (pt a) (pt d) = 0 := fun d q => sgn_z (sc (pt d)).symm oz q
  refine ⟨z, hz, ⟨⟨((hR.1 x).mp hx).1, ((hR.1 y).mp hy).1, ((hR.1 z).mp hz).1, oz, fun d hd => sgn_le (sc (pt d)) o oz (hE.2.2.2.2 d hd)⟩, ?_⟩, ?_, hR.2⟩
  · intro d hd q
    have hdR := (hR.1 d).mpr ⟨hd, back d q⟩
    by_cases e1 : d = x
    · rw [e1, ori_aba]; exact Int.le_refl 0
    by_cases e2 : d = y
    · rw [e2, ori_abb]; exact Int.le_refl 0
    exact Int.le_of_lt (RE_left hE hR h hdR e1 e2)
  · intro d
    rw [hR.1 d]
    exact ⟨fun q => ⟨q.1, sgn_z (sc (pt d)) o q.2⟩, fun q => ⟨q.1, back d q.2⟩⟩
/-- an edge has one face -/
theorem Rg_same (hE : Emp pt od f t a) (hR : Rg pt od R f t a) (hE' : Emp pt od f t a') (hR' : Rg pt od R' f t a') (d : Nat) : d ∈ R ↔ d ∈ R' := by
  have k1 := hE.2.2.2.2 a' hE'.2.2.1
  have k2 := hE'.2.2.2.2 a hE.2.2.1
  rw [inc_end] at k2
  have z : inc (pt f) (pt t) (pt a) (pt a') = 0 := by omega
  have sc := same_circle (Int.ne_of_gt hE'.2.2.2.1) (inc_a (pt f) (pt t) (pt a)) (inc_b (pt f) (pt t) (pt a)) z (pt d)
  rw [hR.1 d, hR'.1 d]
  exact ⟨fun q => ⟨q.1, sgn_z sc hE.2.2.2.1 q.2⟩, fun q => ⟨q.1, sgn_z sc.symm hE'.2.2.2.1 q.2⟩⟩
theorem RE_uniq (hE : Emp pt od f t a) (hR : Rg pt od R f t a) (hE' : Emp pt od f' t' a') (hR' : Rg pt od R' f' t' a') {x y : Nat} (h : RE R x y) (h' : RE R' x y) (d : Nat) : d ∈ R ↔ d ∈ R' := by
  obtain ⟨z, -, h1, h2⟩ := RE_FE hE hR h
  obtain ⟨z', -, h1', h2'⟩ := RE_FE hE' hR' h'
  exact Rg_same h1.1 h2 h1'.1 h2' d
theorem RE_same (hE : Emp pt od f t a) (hR : Rg pt od R f t a) (hE' : Emp pt od f' t' a') (hR' : Rg pt od R' f' t' a') (hm : ∀ d, d ∈ R ↔ d ∈ R') {x y : Nat} (h : RE R x y) : RE R' x y := by
  obtain ⟨hx, hy, hxy, -⟩ := RE_ne hE hR h
  refine left_RE hE' hR' ((hm x).mp hx) ((hm y).mp hy) hxy (fun z hz => ?_)
  by_cases e1 : z = x
  · rw [e1, ori_aba]; exact Int.le_refl 0
  by_cases e2 : z = y
  · rw [e2, ori_abb]; exact Int.le_refl 0
  exact Int.le_of_lt (RE_left hE hR h ((hm z).mpr hz) e1 e2)
/-- an edge of a face is an edge of its ring -/
theorem FE_RE (hF : FE pt od f t a) (hR : Rg pt od R f t a) : RE R f t := by
  have o := hF.1.2.2.2.1
  have n1 : f ≠ t := fun e => by rw [e, ori_aab] at o; omega
  exact left_RE hF.1 hR ((hR.1 f).mpr ⟨hF.1.1, inc_a _ _ _⟩) ((hR.1 t).mpr ⟨hF.1.2.1, inc_b _ _ _⟩) n1 (fun z hz => hF.2 z ((hR.1 z).mp hz).1 ((hR.1 z).mp hz).2)
theorem RE_anti (hE : Emp pt od f t a) (hR : Rg pt od R f t a) {x y : Nat} (h : RE R x y) : ¬ RE R y x := by
  intro h'
  obtain ⟨hx, hy, hxy, z, hz, zx, zy⟩ := RE_ne hE hR h
  have k1 := RE_left hE hR h hz zx zy
  have k2 := RE_left hE hR h' hz zy zx
  rw [ori_swap] at k2
  omega
/-- the triangles of a face -/
def Fan (R : List Nat) (t : Nat × Nat × Nat) : Prop := ∃ i, 2 ≤ i ∧ i < R.length ∧ t = (R.getD 0 0, R.getD (i - 1) 0, R.getD i 0)
theorem fan_edge {i : Nat} (h1 : 2 ≤ i) (h2 : i < R.length) : RE R (R.getD (i - 1) 0) (R.getD i 0) := ⟨i - 1, by omega, rfl, by rw [if_pos (by omega), show i - 1 + 1 = i by omega]⟩
theorem fan_isT {S : Nat → Prop} (hS : ∀ i, S i ↔ i ∈ od) (hE : Emp pt od f t a) (hR : Rg pt od R f t a) {i : Nat} (h1 : 2 ≤ i) (h2 : i < R.length) : isT S pt (R.getD 0 0) (R.getD (i - 1) 0) (R.getD i 0) ∧ ∀ d, d ∈ R ↔ d ∈ od ∧ inc (pt (R.getD 0 0)) (pt (R.getD (i - 1) 0)) (pt (R.getD i 0)) (pt d) = 0 := by
  have m0 : R.getD 0 0 ∈ R := getD_mem (by omega)
  have m1 : R.getD (i - 1) 0 ∈ R := getD_mem (by omega)
  have m2 : R.getD i 0 ∈ R := getD_mem (by omega)
  have oz := rg_cyc hE hR (show 0 < i - 1 by omega) (show i - 1 < i by omega) h2
  have sc := same_circle (Int.ne_of_gt oz) ((hR.1 _).mp m0).2 ((hR.1 _).mp m1).2 ((hR.1 _).mp m2).2
  have o := hE.2.2.2.1
  have back : ∀ d, inc (pt (R.getD 0 0)) (pt (R.getD (i - 1) 0)) (pt (R.getD i 0)) (pt d) = 0 → inc (pt f) (pt t) (pt a) (pt d) = 0 := fun d q => sgn_z (sc (pt d)).symm oz q
  refine ⟨⟨(hS _).mpr ((hR.1 _).mp m0).1, (hS _).mpr ((hR.1 _).mp m1).1, (hS _).mpr ((hR.1 _).mp m2).1, oz, RS_first hR.2 (by omega) (by omega), RS_first hR.2 (by omega) h2, fun d hd n0 n1 n2 => ⟨sgn_le (sc (pt d)) o oz (hE.2.2.2.2 d ((hS d).mp hd)), fun q => ?_⟩⟩, ?_⟩
  · have hdR := (hR.1 d).mpr ⟨(hS d).mp hd, back d q⟩
    refine ⟨?_, Int.le_of_lt (RE_left hE hR (fan_edge h1 h2) hdR n1 n2)⟩
    obtain ⟨k, hk, e⟩ := od_ix hdR
    have k0 : 0 < k := by
      rcases Nat.eq_zero_or_pos k with z | z
      · rw [z] at e; exact absurd e.symm n0
      · exact z
    rw [← e]
    exact lex_asym (RS_first hR.2 k0 hk)
  · intro d
    rw [hR.1 d]
    exact ⟨fun q => ⟨q.1, sgn_z (sc (pt d)) o q.2⟩, fun q => ⟨q.1, back d q.2⟩⟩
theorem isT_Emp {S : Nat → Prop} (hS : ∀ i, S i ↔ i ∈ od) {b c : Nat} (h : isT S pt a b c) : Emp pt od a b c :=
  ⟨(hS _).mp h.1, (hS _).mp h.2.1, (hS _).mp h.2.2.1, h.2.2.2.1, fun d hd => isT_empty h ((hS d).mpr hd)⟩
theorem isT_edge {S : Nat → Prop} (hS : ∀ i, S i ↔ i ∈ od) {b c : Nat} (h : isT S pt a b c) (hR : Rg pt od R a b c) : RE R b c := by
  have hE := isT_Emp hS h
  have o := h.2.2.2.1
  have n3 : b ≠ c := fun e => by rw [e, ori_abb] at o; omega
  refine left_RE hE hR ((hR.1 b).mpr ⟨hE.2.1, inc_b _ _ _⟩) ((hR.1 c).mpr ⟨hE.2.2.1, inc_c _ _ _⟩) n3 (fun z hz => ?_)
  by_cases e0 : z = a
  · rw [e0, ori_rot]; exact Int.le_of_lt o
  by_cases e1 : z = b
  · rw [e1, ori_aba]; exact Int.le_refl 0
  by_cases e2 : z = c
  · rw [e2, ori_abb]; exact Int.le_refl 0
  exact ((h.2.2.2.2.2.2 z ((hS z).mpr ((hR.1 z).mp hz).1) e0 e1 e2).2 ((hR.1 z).mp hz).2).2
theorem isT_fan {S : Nat → Prop} (hS : ∀ i, S i ↔ i ∈ od) {b c : Nat} (h : isT S pt a b c) (hR : Rg pt od R a b c) : Fan R (a, b, c) := by
  have hE := isT_Emp hS h
  have o := h.2.2.2.1
  have h3 := rg_len hE hR
  have la := h.2.2.2.2.1
  have lb := h.2.2.2.2.2.1
  have ea : a = R.getD 0 0 := by
    obtain ⟨k, hk, e⟩ := od_ix ((hR.1 a).mpr ⟨hE.1, inc_a _ _ _⟩)
    rcases Nat.eq_zero_or_pos k with z | z
    · rw [z] at e; exact e.symm
    · exfalso
      have hl := RS_first hR.2 z hk
      rw [e] at hl
      have m0 : R.getD 0 0 ∈ R := getD_mem (by omega)
      obtain ⟨q1, q2⟩ := (hR.1 _).mp m0
      refine ((h.2.2.2.2.2.2 _ ((hS _).mpr q1) ?_ ?_ ?_).2 q2).1 hl
      · intro q; rw [q] at hl; exact lex_ir hl
      · intro q; rw [q] at hl; exact lex_asym hl la
      · intro q; rw [q] at hl; exact lex_asym hl lb
  obtain ⟨i, hi, eb, ec⟩ := isT_edge hS h hR
  have hl : i + 1 < R.length := by
    by_cases q : i + 1 < R.length
    · exact q
    · exfalso
      rw [if_neg q, ← ea] at ec
      rw [ec] at lb
      exact lex_ir lb
  rw [if_pos hl] at ec
  have i0 : i ≠ 0 := fun q => by
    rw [q, ← ea] at eb
    rw [eb] at la
    exact lex_ir la
  exact ⟨i + 1, by omega, hl, by rw [← ea, ← ec, show i + 1 - 1 = i by omega, ← eb]⟩
end R
