/-! The law's loop: every answer is the reference's. -/
theorem cmp_self (r : Int64) : lg_cmp r r = 0 := by
  unfold lg_cmp
  rw [if_neg (show ¬ r > r from fun q => Int.lt_irrefl _ (Int64.lt_iff_toInt_lt.mp q)), if_pos (Eq.refl r)]
set_option maxHeartbeats 4000000 in
theorem law_loop {L : Nat} {sc : Nat → Int32} (hL : L ≤ 2560) : ∀ (n k : Nat) {st : Int32} {xs ys tk ord : Nat → Int32} {pn : Int32} {row : Nat → Int32} {on fl : Int32} {ke fs : Nat → Int32} {mn : Int32} {li wa : Nat → Int32} {wn : Int32} {ri : Nat → Int32} {rn kn ct : Int32} {na nb nc : Nat → Int32} {rd : Int32} {ed : Nat → Int32} {od : List Nat}, 5 * k ≤ L → L < 5 * k + 5 * n → PI xs ys tk → OI xs ys tk ord pn od → (st = 0 → ST xs ys tk od row ke fs li on mn) → NI xs ys tk kn ct na nb nc →
    f_L_law_L18 L sc n st xs ys tk ord pn row on fl ke fs mn li wa wn ri rn tk xs ys kn ct na nb nc rd ed (nI (5 * k)) = some 1 := by
  intro n
  induction n with
  | zero => intro k _ _ _ _ _ _ _ _ _ _ _ _ _ _ _ _ _ _ _ _ _ _ _ _ _ h1 h2; omega
  | succ n ih =>
    intro k st xs ys tk ord pn row on fl ke fs mn li wa wn ri rn kn ct na nb nc rd ed od h1 h2 hI hO hst hN
    rw [f_L_law_L18]
    by_cases h5 : 5 * k + 5 ≤ L
    · have c5 : ¬ (Int32.ofNat L - (5 : Int32) < nI (5 * k)) := by
        have e : Int32.ofNat L - (5 : Int32) = nI (L - 5) := by
          rw [show (5 : Int32) = nI 5 by decide]
          exact pk_sub (by omega)
        rw [e]
        exact nI_nlt (by omega) (by omega)
      have p2 : nI (5 * k) + (2 : Int32) = nI (5 * k + 2) := by rw [show (2 : Int32) = nI 2 by decide, nI_add]
      have p3 : nI (5 * k) + (3 : Int32) = nI (5 * k + 3) := by rw [show (3 : Int32) = nI 3 by decide, nI_add]
      have p4 : nI (5 * k) + (4 : Int32) = nI (5 * k + 4) := by rw [show (4 : Int32) = nI 4 by decide, nI_add]
      have p5 : nI (5 * k) + (5 : Int32) = nI (5 * (k + 1)) := by rw [show (5 : Int32) = nI 5 by decide, nI_add, show 5 * k + 5 = 5 * (k + 1) by omega]
      have i0 : ix (nI (5 * k)) L = true := ix_nI (by omega) (by omega)
      have i1 : ix (nI (5 * k) + (1 : Int32)) L = true := by rw [nI_1]; exact ix_nI (by omega) (by omega)
      have i2 : ix (nI (5 * k) + (2 : Int32)) L = true := by rw [p2]; exact ix_nI (by omega) (by omega)
      have i3 : ix (nI (5 * k) + (3 : Int32)) L = true := by rw [p3]; exact ix_nI (by omega) (by omega)
      have i4 : ix (nI (5 * k) + (4 : Int32)) L = true := by rw [p4]; exact ix_nI (by omega) (by omega)
      have k1 : 5 * (k + 1) ≤ L := by omega
      have k2 : L < 5 * (k + 1) + 5 * n := by omega
      obtain ⟨v, hR, hv, hT⟩ := s_refresh (fl := fl) (wa := wa) (wn := wn) (ri := ri) (rn := rn) hI hO hst
      have hT' := hT
      obtain ⟨B, hB, hU, hM, hF, -, -⟩ := hT'
      rw [if_neg c5, if_pos i0]
      generalize sc (nI (5 * k)).toNatClampNeg &&& (15 : Int32) = c
      by_cases q0 : c = 0
      · obtain ⟨r, st', xs', ys', tk', ord', pn', kn', od', e1, e2, I', O', hc⟩ := op_insert hI hO st kn (sc (nI (5 * k) + (1 : Int32)).toNatClampNeg) (sc (nI (5 * k) + (2 : Int32)).toNatClampNeg)
        rw [if_pos q0, if_pos i1, if_pos i2, e1]
        dsimp only [Option.bind]
        rw [if_pos i1, if_pos i2, e2]
        dsimp only
        rw [if_pos (Eq.refl r), p5]
        rcases hc with ⟨c1, c2, c3, c4, c5, c6, c7⟩ | ⟨c1, c2⟩
        · subst c1 c3 c4 c5 c6 c7
          refine ih (k + 1) k1 k2 hI hO hst ?_
          rcases c2 with c2 | c2
          · rw [c2]; exact hN
          · rw [c2]; exact fun z => absurd rfl z
        · subst c1 c2
          exact ih (k + 1) k1 k2 I' O' (fun z => absurd z (by decide)) (fun z => absurd rfl z)
      rw [if_neg q0]
      by_cases q1 : c = 1
      · obtain ⟨r, st', tk', ord', pn', kn', od', e1, e2, I', O', hc⟩ := op_remove hI hO st kn (sc (nI (5 * k) + (1 : Int32)).toNatClampNeg)
        rw [if_pos q1, if_pos i1, e1]
        dsimp only [Option.bind]
        rw [if_pos i1, e2]
        dsimp only
        rw [if_pos (Eq.refl r), p5]
        rcases hc with ⟨c1, c2, c3, c4, c5⟩ | ⟨c1, c2⟩
        · subst c1 c2 c3 c4 c5
          exact ih (k + 1) k1 k2 hI hO hst hN
        · subst c1 c2
          exact ih (k + 1) k1 k2 I' O' (fun z => absurd z (by decide)) (fun z => absurd rfl z)
      rw [if_neg q1]
      by_cases q2 : c = 2
      · obtain ⟨r, st', xs', ys', tk', ord', pn', kn', od', e1, e2, et, I', O', hc⟩ := op_move hI hO st kn (sc (nI (5 * k) + (1 : Int32)).toNatClampNeg) (sc (nI (5 * k) + (2 : Int32)).toNatClampNeg) (sc (nI (5 * k) + (3 : Int32)).toNatClampNeg)
        subst et
        rw [if_pos q2, if_pos i1, if_pos i2, if_pos i3, e1]
        dsimp only [Option.bind]
        rw [if_pos i1, if_pos i2, if_pos i3, e2]
        dsimp only
        rw [if_pos (Eq.refl r), p5]
        rcases hc with ⟨c1, c2, c3, c4, -, c6, c7⟩ | ⟨c1, c2⟩
        · subst c1 c3 c4 c6 c7
          refine ih (k + 1) k1 k2 hI hO hst ?_
          rcases c2 with c2 | c2
          · rw [c2]; exact hN
          · rw [c2]; exact fun z => absurd rfl z
        · subst c1 c2
          exact ih (k + 1) k1 k2 I' O' (fun z => absurd z (by decide)) (fun z => absurd rfl z)
      rw [if_neg q2]
      by_cases q3 : c = 3
      · obtain ⟨e1, e2⟩ := op_sites hI hO
        rw [if_pos q3, e1]
        dsimp only [Option.bind]
        rw [e2]
        dsimp only
        rw [if_pos (Eq.refl pn), p5]
        exact ih (k + 1) k1 k2 hI hO hst hN
      rw [if_neg q3]
      by_cases q4 : c = 4
      · obtain ⟨r, e1, e2⟩ := op_coord xs ys tk (sc (nI (5 * k) + (1 : Int32)).toNatClampNeg) (sc (nI (5 * k) + (2 : Int32)).toNatClampNeg)
        rw [if_pos q4, if_pos i1, if_pos i2, e1]
        dsimp only [Option.bind]
        rw [if_pos i1, if_pos i2, e2]
        dsimp only
        rw [if_pos (Eq.refl r), p5]
        exact ih (k + 1) k1 k2 hI hO hst hN
      rw [if_neg q4]
      by_cases q5 : c = 5
      · obtain ⟨r, kn', ct', na', nb', nc', e1, e2, N'⟩ := op_triangles hI hN hR hM
        rw [if_pos q5, e1]
        dsimp only [Option.bind]
        rw [e2]
        dsimp only
        rw [if_pos (Eq.refl r), p5]
        exact ih (k + 1) k1 k2 hI hO (fun _ => hT) N'
      rw [if_neg q5]
      by_cases q6 : c = 6
      · obtain ⟨r, kn', ct', na', nb', nc', e1, e2, N'⟩ := op_triangle hI hN hR hM (sc (nI (5 * k) + (1 : Int32)).toNatClampNeg)
        rw [if_pos q6, if_pos i1, e1]
        dsimp only [Option.bind]
        rw [if_pos i1, e2]
        dsimp only
        rw [if_pos (Eq.refl r), p5]
        exact ih (k + 1) k1 k2 hI hO (fun _ => hT) N'
      rw [if_neg q6]
      by_cases q7 : c = 7
      · obtain ⟨r, kn', ct', na', nb', nc', e1, e2, N'⟩ := op_number hI hN hR hM (sc (nI (5 * k) + (1 : Int32)).toNatClampNeg) (sc (nI (5 * k) + (2 : Int32)).toNatClampNeg) (sc (nI (5 * k) + (3 : Int32)).toNatClampNeg)
        rw [if_pos q7, if_pos i1, if_pos i2, if_pos i3]
        rcases e1 with e1 | e1
        · rw [e1]
          dsimp only [Option.bind]
          rw [if_pos i1, if_pos i2, if_pos i3, e2]
          dsimp only
          rw [if_pos (Eq.refl r), p5]
          exact ih (k + 1) k1 k2 hI hO (fun _ => hT) N'
        · rw [e1]
          dsimp only [Option.bind]
          rw [if_pos i1, if_pos i2, if_pos i3, e2]
          dsimp only
          rw [if_pos (Eq.refl r), p5]
          exact ih (k + 1) k1 k2 hI hO hst N'
      rw [if_neg q7]
      by_cases q8 : c = 8
      · obtain ⟨r, kn', ct', na', nb', nc', e1, e2, N'⟩ := op_across hI hN hR hM (sc (nI (5 * k) + (1 : Int32)).toNatClampNeg) (sc (nI (5 * k) + (2 : Int32)).toNatClampNeg)
        rw [if_pos q8, if_pos i1, if_pos i2, e1]
        dsimp only [Option.bind]
        rw [if_pos i1, if_pos i2, e2]
        dsimp only
        rw [if_pos (Eq.refl r), p5]
        exact ih (k + 1) k1 k2 hI hO (fun _ => hT) N'
      rw [if_neg q8]
      by_cases q9 : c = 9
      · obtain ⟨r, kn', ct', na', nb', nc', e1, e2, N'⟩ := op_corners hI hN hR hM hF (sc (nI (5 * k) + (1 : Int32)).toNatClampNeg)
        rw [if_pos q9, if_pos i1, e1]
        dsimp only [Option.bind]
        rw [if_pos i1, e2]
        dsimp only
        rw [if_pos (Eq.refl r), p5]
        exact ih (k + 1) k1 k2 hI hO (fun _ => hT) N'
      rw [if_neg q9]
      by_cases q10 : c = 10
      · obtain ⟨r, kn', ct', na', nb', nc', e1, e2, N'⟩ := op_locate hI hN hR hM (sc (nI (5 * k) + (1 : Int32)).toNatClampNeg) (sc (nI (5 * k) + (2 : Int32)).toNatClampNeg)
        rw [if_pos q10, if_pos i1, if_pos i2]
        rcases e1 with e1 | e1
        · rw [e1]
          dsimp only [Option.bind]
          rw [if_pos i1, if_pos i2, e2]
          dsimp only
          rw [if_pos (Eq.refl r), p5]
          exact ih (k + 1) k1 k2 hI hO (fun _ => hT) N'
        · rw [e1]
          dsimp only [Option.bind]
          rw [if_pos i1, if_pos i2, e2]
          dsimp only
          rw [if_pos (Eq.refl r), p5]
          exact ih (k + 1) k1 k2 hI hO hst N'
      rw [if_neg q10]
      by_cases q11 : c = 11
      · obtain ⟨r, e1, e2⟩ := op_nearest xs ys tk (sc (nI (5 * k) + (1 : Int32)).toNatClampNeg) (sc (nI (5 * k) + (2 : Int32)).toNatClampNeg)
        rw [if_pos q11, if_pos i1, if_pos i2, e1]
        dsimp only [Option.bind]
        rw [if_pos i1, if_pos i2, e2]
        dsimp only
        rw [if_pos (Eq.refl r), p5]
        exact ih (k + 1) k1 k2 hI hO hst hN
      rw [if_neg q11]
      by_cases q12 : c = 12
      · obtain ⟨r, kn', ct', na', nb', nc', e1, e2, N'⟩ := op_neighbours hI hO hN hR hT (sc (nI (5 * k) + (1 : Int32)).toNatClampNeg)
        rw [if_pos q12, if_pos i1]
        rcases e1 with e1 | e1
        · rw [e1]
          dsimp only [Option.bind]
          rw [if_pos i1, e2]
          dsimp only
          rw [if_pos (Eq.refl r), p5]
          exact ih (k + 1) k1 k2 hI hO (fun _ => hT) N'
        · rw [e1]
          dsimp only [Option.bind]
          rw [if_pos i1, e2]
          dsimp only
          rw [if_pos (Eq.refl r), p5]
          exact ih (k + 1) k1 k2 hI hO hst N'
      rw [if_neg q12]
      by_cases q13 : c = 13
      · obtain ⟨r, kn', ct', na', nb', nc', rd', ed', e1, e2, N'⟩ := op_boundary_open (rd := rd) (ed := ed) hI hO hN (nf_T0 hI hO) hB hR hU (sc (nI (5 * k) + (1 : Int32)).toNatClampNeg)
        rw [if_pos q13, if_pos i1, e1]
        dsimp only [Option.bind]
        rw [if_pos i1, e2]
        dsimp only
        rw [if_pos (Eq.refl r), p5]
        exact ih (k + 1) k1 k2 hI hO (fun _ => hT) N'
      rw [if_neg q13]
      by_cases q14 : c = 14
      · obtain ⟨r, e1, e2⟩ := op_inside hI (sc (nI (5 * k) + (1 : Int32)).toNatClampNeg) (sc (nI (5 * k) + (2 : Int32)).toNatClampNeg) (sc (nI (5 * k) + (3 : Int32)).toNatClampNeg) (sc (nI (5 * k) + (4 : Int32)).toNatClampNeg)
        rw [if_pos q14, if_pos i1, if_pos i2, if_pos i3, if_pos i4, e1]
        dsimp only [Option.bind]
        rw [if_pos i1, if_pos i2, if_pos i3, if_pos i4, e2]
        dsimp only
        rw [if_pos (Eq.refl r), p5]
        exact ih (k + 1) k1 k2 hI hO hst hN
      rw [if_neg q14]
      by_cases q15 : c = 15
      · obtain ⟨r, kn', ct', na', nb', nc', rd', ed', e1, e2, N'⟩ := op_area_open (rd := rd) (ed := ed) hI hO hN (nf_T0 hI hO) hB hR hU
        rw [if_pos q15, e1]
        dsimp only [Option.bind]
        rw [e2]
        dsimp only
        rw [if_pos (cmp_self r), p5]
        exact ih (k + 1) k1 k2 hI hO (fun _ => hT) N'
      rw [if_neg q15, p5]
      exact ih (k + 1) k1 k2 hI hO hst hN
    · have c5 : Int32.ofNat L - (5 : Int32) < nI (5 * k) := by
        by_cases hl : 5 ≤ L
        · have e : Int32.ofNat L - (5 : Int32) = nI (L - 5) := by
            rw [show (5 : Int32) = nI 5 by decide]
            exact pk_sub hl
          rw [e]
          exact nI_lt (by omega) (by omega)
        · have e : Int32.ofNat L - (5 : Int32) = nI L - nI 5 := congrArg (fun z => Int32.ofNat L - z) (show (5 : Int32) = nI 5 by decide)
          rw [e, show 5 * k = 0 by omega, nI_0]
          exact pk_sneg (by omega) (by omega)
      rw [if_pos c5]
