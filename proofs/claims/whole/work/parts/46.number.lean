/-! corners, number, across, given what the mesh holds. -/
section Q
variable {xs ys tk ord row ke fs li wa ri na nb nc : Nat → Int32} {st pn on fl mn wn rn kn ct : Int32} {v : Int32 × (Nat → Int32) × Int32 × Int32 × (Nat → Int32) × (Nat → Int32) × Int32 × (Nat → Int32) × (Nat → Int32) × Int32 × (Nat → Int32) × Int32}
/-- the faces' sizes -/
def FI (xs ys tk : Nat → Int32) (l : List (Nat × Nat × Nat)) (fs : Nat → Int32) : Prop := ∀ k, k < l.length → fs k = nI (cocnt xs ys tk (l.getD k (0, 0, 0)) 20)
theorem op_corners (hI : PI xs ys tk) (hN : NI xs ys tk kn ct na nb nc) (hR : f_F_refresh st xs ys ord pn row on fl ke fs mn li wa wn ri rn = some v) (hM : MI (TL (Sx tk) (ptf xs ys)) v.2.2.2.2.1 v.2.2.2.2.2.2.1) (hF : FI xs ys tk (TL (Sx tk) (ptf xs ys)) v.2.2.2.2.2.1) (x : Int32) :
    ∃ (r kn' ct' : Int32) (na' nb' nc' : Nat → Int32), f_F_corners st xs ys ord pn row on fl ke fs mn li wa wn ri rn x = some (r, v) ∧ f_N_corners tk xs ys kn ct na nb nc x = some (r, kn', ct', na', nb', nc') ∧ NI xs ys tk kn' ct' na' nb' nc' := by
  obtain ⟨kn', na', nb', nc', e, h1, h2⟩ := s_work hI hN
  have hlen : (TL (Sx tk) (ptf xs ys)).length ≤ 35 := hM.2.1
  unfold f_F_corners f_N_corners
  rw [hR, e]
  dsimp only [Option.bind]
  rcases mhas_cases hM x with ⟨k, hk, rfl, e1, k1, k2⟩ | ⟨e1, k1⟩
  · have hl := cnr_loop (tk := tk) (kn := kn') (ct := nI (TL (Sx tk) (ptf xs ys)).length) hI.1 hI.2.1 (show k < 40 by omega) (h2 k hk) (hM.2.2.1 _ (getD_mem3 hk)) 600 0 (by omega) (Nat.zero_le _)
    have hz : cocnt xs ys tk ((TL (Sx tk) (ptf xs ys)).getD k (0, 0, 0)) 0 = 0 := by unfold cocnt; rw [List.range_zero, List.filter_nil, List.length_nil]
    rw [hz, nI_0] at hl
    rw [e1, hl, if_neg k1]
    dsimp only
    rw [if_neg (show ¬ (1 : Int32) = 0 by decide), if_pos (nI_lt hk (by omega))]
    unfold f_M_faceSize
    rw [if_pos (ix_nI (show k < 35 by omega) (by decide)), cl_nI (show k < 35 by omega) (by decide), hF k hk]
    exact ⟨_, _, _, _, _, _, Eq.refl _, Eq.refl _, fun _ => ⟨rfl, h2⟩⟩
  · generalize f_N_corners_L22 tk xs ys 600 = gN
    rw [e1]
    dsimp only
    rw [if_pos (Eq.refl (0 : Int32))]
    refine ⟨-1, kn', nI (TL (Sx tk) (ptf xs ys)).length, na', nb', nc', Eq.refl _, ?_, fun _ => ⟨rfl, h2⟩⟩
    rcases k1 with k1 | ⟨k1, k2⟩
    · rw [if_pos k1]
    · rw [if_neg k1, if_neg (fun h => not_le32.mpr h (by rw [← hM.1]; exact k2))]
end Q
/-- a set of slots as bits -/
def bit3 (a b c : Nat) : Nat := 2 ^ a ||| 2 ^ b ||| 2 ^ c
theorem tb_pow (a i : Nat) : (2 ^ a).testBit i = decide (a = i) := Nat.testBit_two_pow
theorem bit3_t (a b c i : Nat) : (bit3 a b c).testBit i = (decide (a = i) || decide (b = i) || decide (c = i)) := by
  unfold bit3
  rw [Nat.testBit_or, Nat.testBit_or, tb_pow, tb_pow, tb_pow]
theorem shl_nI {a : Nat} (ha : a < 20) : (1 : Int32) <<< (nI a &&& 31) = nI (2 ^ a) := by
  have : ∀ a, a < 20 → (1 : Int32) <<< (nI a &&& 31) = nI (2 ^ a) := by decide +kernel
  exact this a ha
theorem or_nI (a b : Nat) : nI a ||| nI b = nI (a ||| b) := by
  apply Int32.toBitVec.inj
  rw [Int32.toBitVec_or]
  show BitVec.ofNat 32 a ||| BitVec.ofNat 32 b = BitVec.ofNat 32 (a ||| b)
  exact BitVec.ofNat_or.symm
theorem pow20 {a : Nat} (h : a < 20) : 2 ^ a < 2 ^ 20 := Nat.pow_lt_pow_right (by omega) h
theorem bit3_lt {a b c : Nat} (ha : a < 20) (hb : b < 20) (hc : c < 20) : bit3 a b c < 2 ^ 20 := Nat.or_lt_two_pow (Nat.or_lt_two_pow (pow20 ha) (pow20 hb)) (pow20 hc)
theorem s_cset {l : List (Nat × Nat × Nat)} {ke : Nat → Int32} {mn : Int32} (hM : MI l ke mn) {k : Nat} (hk : k < l.length) : f_M_cornerSet ke (nI k) = some (nI (bit3 (l.getD k (0, 0, 0)).1 (l.getD k (0, 0, 0)).2.1 (l.getD k (0, 0, 0)).2.2)) := by
  obtain ⟨c1, c2, c3⟩ := s_corner hM hk
  obtain ⟨ha, hb, hc⟩ := hM.2.2.1 _ (getD_mem3 hk)
  unfold f_M_cornerSet
  rw [c1, c2, c3]
  dsimp only [Option.bind]
  rw [shl_nI ha, shl_nI hb, shl_nI hc, or_nI, or_nI]
  rfl
theorem bit3_eq {a b c x y z : Nat} (hd : a ≠ b ∧ b ≠ c ∧ a ≠ c) : bit3 a b c = bit3 x y z ↔ (x ≠ y ∧ y ≠ z ∧ x ≠ z) ∧ (a = x ∨ b = x ∨ c = x) ∧ (a = y ∨ b = y ∨ c = y) ∧ (a = z ∨ b = z ∨ c = z) := by
  constructor
  · intro h
    have k : ∀ i, (a = i ∨ b = i ∨ c = i) ↔ (x = i ∨ y = i ∨ z = i) := by
      intro i
      have := congrArg (fun m => m.testBit i) h
      rw [bit3_t, bit3_t] at this
      have q := (Bool.eq_iff_iff.mp this)
      simp only [Bool.or_eq_true, decide_eq_true_eq] at q
      rw [or_assoc, or_assoc] at q
      exact q
    have ka := (k a).mp (Or.inl rfl)
    have kb := (k b).mp (Or.inr (Or.inl rfl))
    have kc := (k c).mp (Or.inr (Or.inr rfl))
    have kx := (k x).mpr (Or.inl rfl)
    have ky := (k y).mpr (Or.inr (Or.inl rfl))
    have kz := (k z).mpr (Or.inr (Or.inr rfl))
    clear k h
    refine ⟨⟨?_, ?_, ?_⟩, kx, ky, kz⟩
    · clear kx ky kz; omega
    · clear kx ky kz; omega
    · clear kx ky kz; omega
  · rintro ⟨h1, h2, h3, h4⟩
    apply Nat.eq_of_testBit_eq
    intro i
    rw [bit3_t, bit3_t]
    apply Bool.eq_iff_iff.mpr
    simp only [Bool.or_eq_true, decide_eq_true_eq]
    constructor
    · intro h; omega
    · intro h; omega
