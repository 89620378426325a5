/-! area. -/
theorem arF_flat {f : Nat → Int × Int} : ∀ (k : Nat), (∀ i, 2 ≤ i → i < k → ori (f 0) (f (i - 1)) (f i) = 0) → arF f k = 0 := by
  intro k
  induction k with
  | zero => intro _; rw [arF]
  | succ k ih =>
    intro h
    rw [arF, ih (fun i a b => h i a (by omega))]
    split
    · rw [h k (by assumption) (by omega)]; rfl
    · rfl
section Q
variable {xs ys tk ord row ke fs li wa ri na nb nc ed : Nat → Int32} {st pn on fl mn wn rn kn ct rd : Int32} {od B : List Nat} {v : Int32 × (Nat → Int32) × Int32 × Int32 × (Nat → Int32) × (Nat → Int32) × Int32 × (Nat → Int32) × (Nat → Int32) × Int32 × (Nat → Int32) × Int32}
theorem arN_nil {n : Nat} (hz : ct = 0) : f_N_area_L8 tk xs ys (n + 1) kn ct na nb nc (nI 0) ed 0 0 = some (0, kn, ct, na, nb, nc, nI 0, ed) := by
  rw [f_N_area_L8, if_pos (show nI 0 ≤ 0 by decide), if_pos hz]
theorem op_area_open (hI : PI xs ys tk) (hO : OI xs ys tk ord pn od) (hN : NI xs ys tk kn ct na nb nc) (hT0 : ¬ flatL (ptf xs ys) od → TL (Sx tk) (ptf xs ys) ≠ []) (hB : isBL (ptf xs ys) od B) (hR : f_F_refresh st xs ys ord pn row on fl ke fs mn li wa wn ri rn = some v) (hU : UI B v.2.1 v.2.2.1) :
    ∃ (r : Int64) (kn' ct' : Int32) (na' nb' nc' : Nat → Int32) (rd' : Int32) (ed' : Nat → Int32), f_F_area st xs ys ord pn row on fl ke fs mn li wa wn ri rn = some (r, v) ∧ f_N_area tk xs ys kn ct na nb nc rd ed = some (r, kn', ct', na', nb', nc', rd', ed') ∧ NI xs ys tk kn' ct' na' nb' nc' := by
  obtain ⟨kn', na', nb', nc', ed', e, h1, h2, h3, h4, h5⟩ := s_goRound_open hI hO hN hT0 hB rd ed
  have h40 := TL_40 (PI_dist hI) hI.2.2.2.1
  have hB20 : ∀ a ∈ B, a < 20 := fun a ha => hI.2.2.2.1 a ((hO.2.2.2 a).mp (h5 a ha))
  obtain ⟨s1, l1, z1⟩ := arF_loop (ord := ord) (pn := pn) (st := v.1) (fl := v.2.2.2.1) (ke := v.2.2.2.2.1) (fs := v.2.2.2.2.2.1) (mn := v.2.2.2.2.2.2.1) (li := v.2.2.2.2.2.2.2.1) (wa := v.2.2.2.2.2.2.2.2.1) (wn := v.2.2.2.2.2.2.2.2.2.1) (ri := v.2.2.2.2.2.2.2.2.2.2.1) (rn := v.2.2.2.2.2.2.2.2.2.2.2) hI.1 hI.2.1 hU hB20 600 2 0 (by omega) (Nat.le_refl _) (by omega) (by rw [arF_2]; rfl) (Or.inr rfl)
  have e2 : nI 2 = 2 := by decide
  rw [e2] at l1
  unfold f_F_area f_N_area
  rw [hR, e]
  dsimp only [Option.bind]
  rw [l1]
  have hB' : isBL (ptf xs ys) od B := hB
  generalize hgN : f_N_area_L8 tk xs ys 600 kn' (nI (TL (Sx tk) (ptf xs ys)).length) na' nb' nc' (nI B.length) ed' 0 0 = gN
  rcases hB with ⟨hf, hBe⟩ | ⟨hnf, hBe⟩
  · -- all on one line
    have hz : nI (TL (Sx tk) (ptf xs ys)).length = 0 := by rw [flat_TL hI hO hf]; rfl
    have hall := flat_all hO.2.2.1 hf
    have s0 : s1 = 0 := by
      apply Int64.toInt_inj.mp
      have hz0 : arF (fun i => ptf xs ys (B.getD i 0)) B.length = 0 := by
        refine arF_flat (f := fun i => ptf xs ys (B.getD i 0)) B.length (fun i a b => ?_)
        exact hall (B.getD 0 0) (h5 _ (getD_mem (by omega))) (B.getD (i - 1) 0) (h5 _ (getD_mem (by omega))) (B.getD i 0) (h5 _ (getD_mem b))
      rw [z1, hz0]
      rfl
    rcases Nat.eq_zero_or_pos B.length with q | q
    · have hl := arN_nil (tk := tk) (xs := xs) (ys := ys) (n := 599) (kn := kn') (ct := nI (TL (Sx tk) (ptf xs ys)).length) (na := na') (nb := nb') (nc := nc') (ed := ed') hz
      rw [q, hl] at hgN
      rw [← hgN, s0]
      exact ⟨_, _, _, _, _, _, _, _, Eq.refl _, Eq.refl _, fun _ => ⟨rfl, h2⟩⟩
    · obtain ⟨s2, l2, z2⟩ := arN_loop (tk := tk) (kn := kn') (ct := nI (TL (Sx tk) (ptf xs ys)).length) (na := na') (nb := nb') (nc := nc') hI.1 hI.2.1 h4 q hB20 h3 600 0 0 (by omega) (Nat.zero_le _) (by rw [arN]; rfl)
      rw [nI_0, if_pos hz] at l2
      rw [l2] at hgN
      rw [← hgN, s0]
      exact ⟨_, _, _, _, _, _, _, _, Eq.refl _, Eq.refl _, fun _ => ⟨rfl, h2⟩⟩
  · have hne : (TL (Sx tk) (ptf xs ys)).length ≠ 0 := fun q => hT0 hnf (List.eq_nil_of_length_eq_zero q)
    have hz : ¬ nI (TL (Sx tk) (ptf xs ys)).length = 0 := nI_ne0 (by omega) (by omega)
    have hpos : 0 < od.length := by
      rcases Nat.eq_zero_or_pos od.length with q | q
      · exact absurd (fun k a b => by omega) hnf
      · exact q
    have hm : od.head? = some (od.getD 0 0) := by
      cases hq : od with
      | nil => rw [hq] at hpos; exact absurd hpos (Nat.lt_irrefl _)
      | cons a l => rfl
    obtain ⟨-, -, -, b4, -, -, -, -⟩ := bnd_ok hm hO.2.2.1 hnf
    rw [← hBe] at b4
    obtain ⟨s2, l2, z2⟩ := arN_loop (tk := tk) (kn := kn') (ct := nI (TL (Sx tk) (ptf xs ys)).length) (na := na') (nb := nb') (nc := nc') hI.1 hI.2.1 h4 b4 hB20 h3 600 0 0 (by omega) (Nat.zero_le _) (by rw [arN]; rfl)
    rw [nI_0, if_neg hz] at l2
    have es : s1 = s2 := by
      apply Int64.toInt_inj.mp
      rw [z1, z2, arN_F _ b4]
    rw [l2] at hgN
    rw [← hgN, es]
    exact ⟨_, _, _, _, _, _, _, _, Eq.refl _, Eq.refl _, fun _ => ⟨rfl, h2⟩⟩
end Q
