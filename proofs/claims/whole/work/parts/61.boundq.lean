/-! boundary, given what the outline holds. -/
/-- the outline holds the list -/
def UI (B : List Nat) (row : Nat → Int32) (on : Int32) : Prop := on = nI B.length ∧ B.length ≤ 20 ∧ ∀ k, k < B.length → row k = nI (B.getD k 0)
section Q
variable {xs ys tk ord row ke fs li wa ri na nb nc ed : Nat → Int32} {st pn on fl mn wn rn kn ct rd : Int32} {od B : List Nat} {v : Int32 × (Nat → Int32) × Int32 × Int32 × (Nat → Int32) × (Nat → Int32) × Int32 × (Nat → Int32) × (Nat → Int32) × Int32 × (Nat → Int32) × Int32}
theorem op_boundary_open (hI : PI xs ys tk) (hO : OI xs ys tk ord pn od) (hN : NI xs ys tk kn ct na nb nc) (hT0 : ¬ flatL (ptf xs ys) od → TL (Sx tk) (ptf xs ys) ≠ []) (hB : isBL (ptf xs ys) od B) (hR : f_F_refresh st xs ys ord pn row on fl ke fs mn li wa wn ri rn = some v) (hU : UI B v.2.1 v.2.2.1) (x : Int32) :
    ∃ (r kn' ct' : Int32) (na' nb' nc' : Nat → Int32) (rd' : Int32) (ed' : Nat → Int32), f_F_boundary st xs ys ord pn row on fl ke fs mn li wa wn ri rn x = some (r, v) ∧ f_N_boundary tk xs ys kn ct na nb nc rd ed x = some (r, kn', ct', na', nb', nc', rd', ed') ∧ NI xs ys tk kn' ct' na' nb' nc' := by
  obtain ⟨kn', na', nb', nc', ed', e, h1, h2, h3, h4, h5⟩ := s_goRound_open hI hO hN hT0 hB rd ed
  obtain ⟨u1, u2, u3⟩ := hU
  unfold f_F_boundary f_N_boundary
  rw [hR, e]
  dsimp only [Option.bind, f_O_size]
  rcases pk_ix x (n := B.length) (by omega) with h | h | ⟨j, hj, rfl⟩
  · rw [if_pos h, if_pos h]
    exact ⟨_, _, _, _, _, _, _, _, Eq.refl _, Eq.refl _, fun _ => ⟨rfl, h2⟩⟩
  · by_cases h0 : x < 0
    · rw [if_pos h0, if_pos h0]
      exact ⟨_, _, _, _, _, _, _, _, Eq.refl _, Eq.refl _, fun _ => ⟨rfl, h2⟩⟩
    · rw [if_neg h0, if_neg h0, if_pos (show v.2.2.1 ≤ x by rw [u1]; exact h), if_neg (fun q => not_le32.mpr q h)]
      exact ⟨_, _, _, _, _, _, _, _, Eq.refl _, Eq.refl _, fun _ => ⟨rfl, h2⟩⟩
  · have hn := nI_pos (n := j) (by omega)
    rw [if_neg hn, if_neg hn, if_neg (show ¬ v.2.2.1 ≤ nI j by rw [u1]; exact nI_ge hj (by omega)), if_pos (nI_lt hj (by omega))]
    unfold f_O_at
    rw [if_pos (ix_nI (show j < 40 by omega) (by decide)), if_pos (ix_nI (show j < 20 by omega) (by decide)), cl_nI (show j < 40 by omega) (by decide), u3 j hj, h3 j hj]
    exact ⟨_, _, _, _, _, _, _, _, Eq.refl _, Eq.refl _, fun _ => ⟨rfl, h2⟩⟩
/-- what trace lays is the boundary -/
theorem trace_BL (hI : PI xs ys tk) (hO : OI xs ys tk ord pn od) (row : Nat → Int32) (on fl : Int32) : ∃ (B : List Nat) (row' : Nat → Int32) (on' fl' : Int32), f_O_trace xs ys ord pn row on fl = some (row', on', fl') ∧ isBL (ptf xs ys) od B ∧ UI B row' on' ∧ ((fl' = 1 ∧ flatL (ptf xs ys) od) ∨ (fl' = 0 ∧ ¬ flatL (ptf xs ys) od)) := by
  have hod : ∀ a ∈ od, a < 20 := fun a ha => hI.2.2.2.1 a ((hO.2.2.2 a).mp ha)
  have hod20 := od20 hI hO
  rcases s_trace (row := row) (on := on) (fl := fl) hI.1 hI.2.1 hod hod20 hO.2.1 hO.1 with ⟨row', e, h, hf⟩ | ⟨row', e, h, hf⟩
  · have hp : pushAll (ptf xs ys) [] od = od.reverse := by
      rw [flat_push (flat_all hO.2.2.1 hf) od [] (fun x hx => absurd hx List.not_mem_nil) (fun x hx => hx), List.append_nil]
    rw [hp] at e h
    refine ⟨od, row', _, 1, e, Or.inl ⟨hf, rfl⟩, ⟨by rw [List.length_reverse], hod20, fun k hk => ?_⟩, Or.inl ⟨rfl, hf⟩⟩
    have := HRr_get h k (by rw [List.length_reverse]; exact hk)
    rw [List.reverse_reverse] at this
    exact this
  · have hpos : 0 < od.length := by
      rcases Nat.eq_zero_or_pos od.length with q | q
      · exact absurd (fun k a b => by omega) hf
      · exact q
    have hm : od.head? = some (od.getD 0 0) := by
      cases hq : od with
      | nil => rw [hq] at hpos; exact absurd hpos (Nat.lt_irrefl _)
      | cons a l => rfl
    obtain ⟨b1, b2, b3, b4, b5, b6, -, -⟩ := bnd_ok hm hO.2.2.1 hf
    have hb20 : (bnd (ptf xs ys) od).length ≤ 20 := od_len b2 (fun a ha => hod a (b3 a ha))
    refine ⟨bnd (ptf xs ys) od, row', _, 0, e, Or.inr ⟨hf, rfl⟩, ⟨?_, hb20, fun k hk => ?_⟩, Or.inr ⟨rfl, hf⟩⟩
    · rw [b1]; exact nI_pred _
    · rw [HRr_get h k (by omega), b6 k hk]
end Q
