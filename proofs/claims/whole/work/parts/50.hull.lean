/-! The chains of the boundary: turns in a half plane, and the class's push. -/
def crs (u v : Int × Int) : Int := u.1 * v.2 - u.2 * v.1
def lpos (u : Int × Int) : Prop := 0 < u.1 ∨ (u.1 = 0 ∧ 0 < u.2)
theorem crs_id (u v w : Int × Int) : u.1 * crs v w + w.1 * crs u v = v.1 * crs u w := by unfold crs; grind
theorem pos_of_mul {a x : Int} (ha : 0 < a) (h : 0 < a * x) : 0 < x := by
  rcases Int.lt_or_le 0 x with k | k
  · exact k
  · have := Int.mul_nonpos_of_nonneg_of_nonpos (Int.le_of_lt ha) k
    omega
theorem nn_of_mul {a x : Int} (ha : 0 < a) (h : 0 ≤ a * x) : 0 ≤ x := by
  rcases Int.lt_or_le x 0 with k | k
  · have := Int.mul_neg_of_pos_of_neg ha k
    omega
  · exact k
theorem up_up {u v : Int × Int} (hu : lpos u) (hv : lpos v) (h : v.1 = 0) (k : 0 ≤ crs v u) : u.1 = 0 := by
  unfold lpos at hu hv
  unfold crs at k
  rw [h, Int.zero_mul] at k
  rcases Int.lt_or_le 0 u.1 with q | q
  · have := Int.mul_pos (show 0 < v.2 by omega) q
    omega
  · omega
theorem hp_tr {u v w : Int × Int} (hu : lpos u) (hv : lpos v) (hw : lpos w) (h1 : 0 ≤ crs u v) (h2 : 0 ≤ crs v w) : 0 ≤ crs u w := by
  have id := crs_id u v w
  rcases hv with k | ⟨k, k2⟩
  · apply nn_of_mul k
    rw [← id]
    have a1 := Int.mul_nonneg (show 0 ≤ u.1 by unfold lpos at hu; omega) h2
    have a2 := Int.mul_nonneg (show 0 ≤ w.1 by unfold lpos at hw; omega) h1
    omega
  · have w0 := up_up hw (Or.inr ⟨k, k2⟩) k h2
    unfold crs
    rw [w0, Int.mul_zero]
    have := Int.mul_nonneg (show 0 ≤ u.1 by unfold lpos at hu; omega) (show 0 ≤ w.2 by unfold lpos at hw; omega)
    omega
theorem hp_tr1 {u v w : Int × Int} (hu : lpos u) (hv : lpos v) (hw : lpos w) (h1 : 0 < crs u v) (h2 : 0 ≤ crs v w) : 0 < crs u w := by
  have id := crs_id u v w
  rcases hv with k | ⟨k, k2⟩
  · apply pos_of_mul k
    rw [← id]
    have a1 := Int.mul_nonneg (show 0 ≤ u.1 by unfold lpos at hu; omega) h2
    rcases hw with q | ⟨q, q2⟩
    · have a2 := Int.mul_pos q h1
      omega
    · have u1 : 0 < u.1 := by
        rcases hu with r | ⟨r, r2⟩
        · exact r
        · exfalso
          unfold crs at h1
          rw [r, Int.zero_mul] at h1
          have := Int.mul_pos r2 k
          omega
      have a2 : 0 < crs v w := by
        unfold crs
        rw [q, Int.mul_zero]
        have := Int.mul_pos k q2
        omega
      have a3 := Int.mul_pos u1 a2
      rw [q, Int.zero_mul]
      omega
  · have w0 := up_up hw (Or.inr ⟨k, k2⟩) k h2
    have u1 : 0 < u.1 := by
      rcases hu with r | ⟨r, r2⟩
      · exact r
      · exfalso
        unfold crs at h1
        rw [r, k, Int.zero_mul, Int.mul_zero] at h1
        omega
    unfold crs
    rw [w0, Int.mul_zero]
    have := Int.mul_pos u1 (show 0 < w.2 by unfold lpos at hw; omega)
    omega
/-- the stack behind its pops: top first -/
def popR (pt : Nat → Int × Int) : List Nat → Nat → List Nat
  | b :: a :: R, s => if ori (pt a) (pt b) (pt s) < 0 then popR pt (a :: R) s else b :: a :: R
  | R, _ => R
/-- the row holds the stack, top first -/
def HRr : List Nat → (Nat → Int32) → Prop
  | [], _ => True
  | b :: R, row => row R.length = nI b ∧ HRr R row
theorem HRr_upd {R : List Nat} {row : Nat → Int32} {k : Nat} {x : Int32} (h : HRr R row) (hk : R.length ≤ k) : HRr R (upd row k x) := by
  induction R with
  | nil => exact trivial
  | cons b R ih =>
    rw [List.length_cons] at hk
    exact ⟨by rw [upd_n (by omega)]; exact h.1, ih h.2 (by omega)⟩
theorem popR_le (pt : Nat → Int × Int) (s : Nat) : ∀ R : List Nat, (popR pt R s).length ≤ R.length := by
  intro R
  induction R with
  | nil => exact Nat.le_refl _
  | cons b R ih =>
    cases R with
    | nil => exact Nat.le_refl _
    | cons a R =>
      rw [popR]
      split
      · exact Nat.le_trans ih (Nat.le_succ _)
      · exact Nat.le_refl _
theorem push_loop {xs ys row : Nat → Int32} (hx : B6 xs) (hy : B6 ys) {s : Nat} (hs : s < 20) : ∀ (n : Nat) (R : List Nat), R.length < n → R.length < 40 → (∀ a ∈ R, a < 20) → HRr R row →
    ∃ row', f_O_push_L0 xs ys n row (nI R.length) (nI s) = some (row', nI ((popR (ptf xs ys) R s).length + 1)) ∧ HRr (s :: popR (ptf xs ys) R s) row' := by
  intro n
  induction n with
  | zero => intro R h; exact absurd h (Nat.not_lt_zero _)
  | succ n ih =>
    intro R hn h40 h20 hH
    have stop : ∃ row', f_O_push_b51 xs ys row (nI R.length) (nI s) = some (row', nI (R.length + 1)) ∧ HRr (s :: R) row' := by
      refine ⟨upd row R.length (nI s), ?_, upd_s, HRr_upd hH (Nat.le_refl _)⟩
      unfold f_O_push_b51
      rw [if_neg (show ¬ (40 : Int32) ≤ nI R.length from nI_ge h40 (by decide)), if_pos (ix_nI h40 (by decide)), cl_nI h40 (by decide), nI_1]
    rw [f_O_push_L0]
    match R, hn, h40, h20, hH, stop with
    | [], _, _, _, _, stop => rw [if_pos (show nI ([] : List Nat).length < (2 : Int32) by decide)]; exact stop
    | [b], _, _, _, _, stop => rw [if_pos (show nI ([b] : List Nat).length < (2 : Int32) by rw [List.length_singleton]; decide)]; exact stop
    | b :: a :: R, hn, h40, h20, hH, stop =>
      simp only [List.length_cons] at hn h40 ⊢
      have hb := h20 b (by simp)
      have ha := h20 a (by simp)
      have e2 : nI (R.length + 1 + 1) - (2 : Int32) = nI R.length := by
        rw [show (2 : Int32) = nI 2 by decide, pk_sub (by omega)]; congr 1
      have e1 : nI (R.length + 1 + 1) - (1 : Int32) = nI (R.length + 1) := nI_pred _
      rw [if_neg (show ¬ nI (R.length + 1 + 1) < (2 : Int32) by rw [show (2 : Int32) = nI 2 by decide]; exact nI_nlt (by omega) (by omega)), e2, e1, if_pos (ix_nI (show R.length < 40 by omega) (by decide)), if_pos (ix_nI (show R.length + 1 < 40 by omega) (by decide)), cl_nI (show R.length < 40 by omega) (by decide), cl_nI (show R.length + 1 < 40 by omega) (by decide)]
      have r1 : row (R.length + 1) = nI b := hH.1
      have r2 : row R.length = nI a := hH.2.1
      rw [r1, r2, s_side hx hy ha hb hs]
      dsimp only [Option.bind]
      rw [popR]
      by_cases hl : ori (ptf xs ys a) (ptf xs ys b) (ptf xs ys s) < 0
      · rw [if_pos hl, sg_neg hl, if_neg (by decide)]
        exact ih (a :: R) (by simp only [List.length_cons]; omega) (by simp only [List.length_cons]; omega) (fun q hq => h20 q (List.mem_cons_of_mem _ hq)) hH.2
      · have hs0 : 0 ≤ sg (ori (ptf xs ys a) (ptf xs ys b) (ptf xs ys s)) := by
          rcases sg_cases (ori (ptf xs ys a) (ptf xs ys b) (ptf xs ys s)) with ⟨_, e⟩ | ⟨_, e⟩ | ⟨q, _⟩
          · rw [e]; decide
          · rw [e]; decide
          · exact absurd q hl
        rw [if_neg hl, if_pos hs0]
        exact stop
