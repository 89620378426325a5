/-! refresh, whole; what the class's rows hold when they are not stale. -/
def ST (xs ys tk : Nat → Int32) (od : List Nat) (row ke fs li : Nat → Int32) (on mn : Int32) : Prop := ∃ B : List Nat, isBL (ptf xs ys) od B ∧ UI B row on ∧ MI (TL (Sx tk) (ptf xs ys)) ke mn ∧ FI xs ys tk (TL (Sx tk) (ptf xs ys)) fs ∧ (flatL (ptf xs ys) od → LK (lnb od) li) ∧ (¬ flatL (ptf xs ys) od → LK (nbr (ptf xs ys) od) li)
section T
variable {xs ys tk ord row ke fs li wa ri : Nat → Int32} {st pn on fl mn wn rn : Int32} {od B : List Nat}
theorem spread_nil : f_M_spread xs ys ord pn ke fs 0 li wa 0 ri rn = some (ke, fs, 0, li, wa, 0, ri, rn) := by
  unfold f_M_spread
  rw [f_M_spread_L2, if_neg (show ¬ (54 : Int32) ≤ 0 by decide), if_pos (show (0 : Int32) ≤ 0 by decide)]
theorem s_refresh (hI : PI xs ys tk) (hO : OI xs ys tk ord pn od) (hst : st = 0 → ST xs ys tk od row ke fs li on mn) :
    ∃ v, f_F_refresh st xs ys ord pn row on fl ke fs mn li wa wn ri rn = some v ∧ v.1 = 0 ∧ ST xs ys tk od v.2.1 v.2.2.2.2.1 v.2.2.2.2.2.1 v.2.2.2.2.2.2.2.1 v.2.2.1 v.2.2.2.2.2.2.1 := by
  unfold f_F_refresh
  by_cases h0 : st = 0
  · rw [if_pos h0]
    exact ⟨_, rfl, h0, hst h0⟩
  · rw [if_neg h0]
    obtain ⟨B, row', on', fl', e1, hB, hU, hfl⟩ := trace_BL hI hO row on fl
    rw [e1]
    dsimp only [Option.bind]
    have hm20 : ∀ a ∈ od, a < 20 := fun a ha => hI.2.2.2.1 a ((hO.2.2.2 a).mp ha)
    obtain ⟨li1, e2, L1⟩ := s_fill li
    unfold f_M_begin
    rw [e2]
    dsimp only [Option.bind]
    unfold f_O_isFlat
    rcases hfl with ⟨f1, hf⟩ | ⟨f1, hf⟩
    · have eB : B = od := by
        rcases hB with ⟨-, h⟩ | ⟨h, -⟩
        · exact h
        · exact absurd hf h
      have hz : z01 fl' := by rw [f1]; unfold z01; decide
      have hT := flat_TL hI hO hf
      rw [if_pos hz]
      dsimp only
      rw [f1, if_neg (show ¬ (1 : Int32) = 0 by decide)]
      obtain ⟨li2, e3, L2⟩ := s_linkLine hU (fun a ha => hm20 a (eB ▸ ha)) L1
      rw [e3]
      dsimp only
      rw [spread_nil]
      dsimp only
      refine ⟨_, rfl, rfl, B, hB, hU, ?_, ?_, fun _ => ?_, fun q => absurd hf q⟩
      · rw [hT]
        exact ⟨nI_0.symm, Nat.zero_le _, fun t ht => (by cases ht), fun k hk => absurd hk (Nat.not_lt_zero _)⟩
      · rw [hT]
        exact fun k hk => absurd hk (Nat.not_lt_zero _)
      · rw [eB] at L2
        exact L2
    · have eB : B = bnd (ptf xs ys) od := by
        rcases hB with ⟨h, -⟩ | ⟨-, h⟩
        · exact absurd h hf
        · exact h
      have hz : z01 fl' := by rw [f1]; unfold z01; decide
      rw [if_pos hz]
      dsimp only
      rw [f1, if_pos (Eq.refl (0 : Int32))]
      obtain ⟨m, hm⟩ := nf_head hf
      obtain ⟨-, -, hsub, hpos, -⟩ := bnd_ok hm hO.2.2.1 hf
      rw [← eB] at hsub hpos
      obtain ⟨li2, wa2, e3, L2, hwa⟩ := s_awaitOutline (wa := wa) hU (fun a ha => hm20 a (hsub a ha)) hpos L1
      rw [e3]
      dsimp only
      have L2' : LK (fun x y => BE (bnd (ptf xs ys) od) y x) li2 := by
        rw [← eB]
        exact L2
      rw [eB] at hwa
      obtain ⟨ke', fs', li', wa', ri', mn', wn', rn', e4, h1, h2, h3⟩ := s_spread (ke := ke) (fs := fs) (ri := ri) (rn := rn) hI hO hf L2' hwa
      rw [eB, e4]
      dsimp only
      exact ⟨_, rfl, rfl, B, hB, hU, h1, h2, fun q => absurd q hf, fun _ => h3⟩
end T
