/-! number and across. -/
theorem and_nI (a b : Nat) : nI a &&& nI b = nI (a &&& b) := by
  apply Int32.toBitVec.inj
  rw [Int32.toBitVec_and]
  show BitVec.ofNat 32 a &&& BitVec.ofNat 32 b = BitVec.ofNat 32 (a &&& b)
  exact BitVec.ofNat_and.symm
theorem xor_nI (a b : Nat) : nI a ^^^ nI b = nI (a ^^^ b) := by
  apply Int32.toBitVec.inj
  rw [Int32.toBitVec_xor]
  show BitVec.ofNat 32 a ^^^ BitVec.ofNat 32 b = BitVec.ofNat 32 (a ^^^ b)
  exact BitVec.ofNat_xor.symm
theorem edge_bits {a b c : Nat} (ha : a < 20) (hb : b < 20) (hc : c < 20) (h1 : a ≠ b) (h2 : a ≠ c) : nI (bit3 a b c) &&& (nI (2 ^ a) ^^^ (-1 : Int32)) = nI (2 ^ b ||| 2 ^ c) := by
  have e : (-1 : Int32) = nI (2 ^ 32 - 1) := by decide
  rw [e, xor_nI, and_nI]
  congr 1
  apply Nat.eq_of_testBit_eq
  intro i
  rw [Nat.testBit_and, bit3_t, Nat.testBit_xor, Nat.testBit_or, tb_pow, tb_pow, tb_pow, Nat.testBit_two_pow_sub_one]
  by_cases k1 : a = i
  · subst k1
    simp [show ¬ b = a from fun h => h1 h.symm, show ¬ c = a from fun h => h2 h.symm, show a < 32 by omega]
  · by_cases k2 : b = i
    · subst k2
      simp [k1, show b < 32 by omega]
    · by_cases k3 : c = i
      · subst k3
        simp [k1, show c < 32 by omega]
      · simp [k1, k2, k3]
theorem bit3_r (a b c : Nat) : bit3 b c a = bit3 a b c := by
  apply Nat.eq_of_testBit_eq
  intro i
  rw [bit3_t, bit3_t]
  cases decide (a = i) <;> cases decide (b = i) <;> cases decide (c = i) <;> rfl
theorem two_lt {p q : Nat} (hp : p < 20) (hq : q < 20) : 2 ^ p ||| 2 ^ q < 2 ^ 20 := Nat.or_lt_two_pow (pow20 hp) (pow20 hq)
theorem sub_bits {a b c p q : Nat} (ha : a < 20) (hb : b < 20) (hc : c < 20) (hp : p < 20) (hq : q < 20) : nI (bit3 a b c) &&& nI (2 ^ p ||| 2 ^ q) = nI (2 ^ p ||| 2 ^ q) ↔ (a = p ∨ b = p ∨ c = p) ∧ (a = q ∨ b = q ∨ c = q) := by
  have b2 := two_lt hp hq
  have b3 : bit3 a b c &&& (2 ^ p ||| 2 ^ q) < 2 ^ 20 := Nat.lt_of_le_of_lt Nat.and_le_right b2
  rw [and_nI, nI_eq (by omega) (by omega)]
  constructor
  · intro h
    have k : ∀ i, (p = i ∨ q = i) → (a = i ∨ b = i ∨ c = i) := by
      intro i hi
      have := congrArg (fun m => m.testBit i) h
      rw [Nat.testBit_and, bit3_t, Nat.testBit_or, tb_pow, tb_pow] at this
      have q1 : (decide (p = i) || decide (q = i)) = true := by simpa using hi
      rw [q1, Bool.and_true] at this
      simpa [or_assoc] using this
    exact ⟨k p (Or.inl rfl), k q (Or.inr rfl)⟩
  · rintro ⟨h1, h2⟩
    apply Nat.eq_of_testBit_eq
    intro i
    rw [Nat.testBit_and, bit3_t, Nat.testBit_or, tb_pow, tb_pow]
    by_cases k1 : p = i
    · subst k1
      have : (decide (a = p) || decide (b = p) || decide (c = p)) = true := by simpa [or_assoc] using h1
      rw [this, Bool.true_and]
    · by_cases k2 : q = i
      · subst k2
        have : (decide (a = q) || decide (b = q) || decide (c = q)) = true := by simpa [or_assoc] using h2
        rw [this, Bool.true_and]
      · simp [k1, k2]
theorem TL_dist {S : Nat → Prop} {pt : Nat → Int × Int} (h20 : ∀ i, S i → i < 20) : ∀ t ∈ TL S pt, t.1 ≠ t.2.1 ∧ t.2.1 ≠ t.2.2 ∧ t.1 ≠ t.2.2 := by
  intro t ht
  have o := ((TL_mem h20).mp ht).2.2.2.1
  refine ⟨fun e => ?_, fun e => ?_, fun e => ?_⟩
  · rw [e, ori_aab] at o; omega
  · rw [e, ori_abb] at o; omega
  · rw [e, ori_aba] at o; omega
section Q
variable {xs ys tk ord row ke fs li wa ri na nb nc : Nat → Int32} {st pn on fl mn wn rn kn ct : Int32} {v : Int32 × (Nat → Int32) × Int32 × Int32 × (Nat → Int32) × (Nat → Int32) × Int32 × (Nat → Int32) × (Nat → Int32) × Int32 × (Nat → Int32) × Int32}
theorem op_number (hI : PI xs ys tk) (hN : NI xs ys tk kn ct na nb nc) (hR : f_F_refresh st xs ys ord pn row on fl ke fs mn li wa wn ri rn = some v) (hM : MI (TL (Sx tk) (ptf xs ys)) v.2.2.2.2.1 v.2.2.2.2.2.2.1) (x1 x2 x3 : Int32) :
    ∃ (r kn' ct' : Int32) (na' nb' nc' : Nat → Int32), (f_F_number st xs ys tk ord pn row on fl ke fs mn li wa wn ri rn x1 x2 x3 = some (r, v) ∨ f_F_number st xs ys tk ord pn row on fl ke fs mn li wa wn ri rn x1 x2 x3 = some (r, st, row, on, fl, ke, fs, mn, li, wa, wn, ri, rn)) ∧ f_N_number tk xs ys kn ct na nb nc x1 x2 x3 = some (r, kn', ct', na', nb', nc') ∧ NI xs ys tk kn' ct' na' nb' nc' := by
  obtain ⟨kn', na', nb', nc', e, h1, h2⟩ := s_work hI hN
  have hlen : (TL (Sx tk) (ptf xs ys)).length ≤ 35 := hM.2.1
  have no : ∀ u : Int32, (∀ a, a < 20 → u = nI a → tk a = 0) → ∀ k, k < (TL (Sx tk) (ptf xs ys)).length → ¬ cnr (TL (Sx tk) (ptf xs ys)) k u := by
    intro u hu k hk hc
    have ht := (TL_mem (S := Sx tk) (pt := ptf xs ys) hI.2.2.2.1).mp (getD_mem3 hk)
    rcases hc with hc | hc | hc
    · exact ht.1 (hu _ (hI.2.2.2.1 _ ht.1) hc.symm)
    · exact ht.2.1 (hu _ (hI.2.2.2.1 _ ht.2.1) hc.symm)
    · exact ht.2.2.1 (hu _ (hI.2.2.2.1 _ ht.2.2.1) hc.symm)
  have none' : (∀ k, k < (TL (Sx tk) (ptf xs ys)).length → ¬ (cnr (TL (Sx tk) (ptf xs ys)) k x1 ∧ cnr (TL (Sx tk) (ptf xs ys)) k x2 ∧ cnr (TL (Sx tk) (ptf xs ys)) k x3)) → f_N_number tk xs ys kn ct na nb nc x1 x2 x3 = some (-1, kn', nI (TL (Sx tk) (ptf xs ys)).length, na', nb', nc') := by
    intro hno
    have hl := num_none (xs := xs) (ys := ys) (tk := tk) (kn := kn') h2 (by omega) x1 x2 x3 hno 600 0 (by omega) (Nat.zero_le _)
    rw [nI_0] at hl
    unfold f_N_number
    rw [e]
    exact hl
  unfold f_F_number
  rcases has_cases tk x1 with ⟨a, ha, rfl, t1, e1⟩ | ⟨e1, u1⟩
  · rcases has_cases tk x2 with ⟨b, hb, rfl, t2, e2⟩ | ⟨e2, u2⟩
    · rcases has_cases tk x3 with ⟨c, hc, rfl, t3, e3⟩ | ⟨e3, u3⟩
      · obtain ⟨r, l1, l2⟩ := num_loop (xs := xs) (ys := ys) (tk := tk) (ord := ord) (pn := pn) (st := v.1) (row := v.2.1) (on := v.2.2.1) (fl := v.2.2.2.1) (fs := v.2.2.2.2.2.1) (li := v.2.2.2.2.2.2.2.1) (wa := v.2.2.2.2.2.2.2.2.1) (wn := v.2.2.2.2.2.2.2.2.2.1) (ri := v.2.2.2.2.2.2.2.2.2.2.1) (rn := v.2.2.2.2.2.2.2.2.2.2.2) (kn := kn') hM h2 (TL_dist hI.2.2.2.1) ha hb hc 600 0 (by omega) (Nat.zero_le _)
        rw [nI_0] at l1 l2
        rw [shl_nI ha, shl_nI hb, shl_nI hc, or_nI, or_nI, e1, e2, e3, hR]
        dsimp only [Option.bind]
        rw [if_neg (show ¬ (1 : Int32) = 0 by decide), if_neg (show ¬ (1 : Int32) = 0 by decide), if_neg (show ¬ (1 : Int32) = 0 by decide)]
        unfold f_N_number
        rw [e]
        dsimp only [Option.bind]
        rw [l2]
        exact ⟨_, _, _, _, _, _, Or.inl l1, Eq.refl _, fun _ => ⟨rfl, h2⟩⟩
      · generalize f_F_number_L55 xs ys tk ord pn 600 = gF
        rw [none' (fun k hk q => no _ u3 k hk q.2.2), e1, e2, e3]
        dsimp only [Option.bind]
        rw [if_neg (show ¬ (1 : Int32) = 0 by decide), if_neg (show ¬ (1 : Int32) = 0 by decide), if_pos (Eq.refl (0 : Int32))]
        exact ⟨_, _, _, _, _, _, Or.inr (Eq.refl _), Eq.refl _, fun _ => ⟨rfl, h2⟩⟩
    · generalize f_F_number_L55 xs ys tk ord pn 600 = gF
      rw [none' (fun k hk q => no _ u2 k hk q.2.1), e1, e2]
      dsimp only [Option.bind]
      rw [if_neg (show ¬ (1 : Int32) = 0 by decide), if_pos (Eq.refl (0 : Int32))]
      exact ⟨_, _, _, _, _, _, Or.inr (Eq.refl _), Eq.refl _, fun _ => ⟨rfl, h2⟩⟩
  · generalize f_F_number_L55 xs ys tk ord pn 600 = gF
    rw [none' (fun k hk q => no _ u1 k hk q.1), e1]
    dsimp only [Option.bind]
    rw [if_pos (Eq.refl (0 : Int32))]
    exact ⟨_, _, _, _, _, _, Or.inr (Eq.refl _), Eq.refl _, fun _ => ⟨rfl, h2⟩⟩
theorem acr_loop {l : List (Nat × Nat × Nat)} (hM : MI l ke mn) (hT : HT l na nb nc) {i p q : Nat} (hi : i < 40) (hp : p < 20) (hq : q < 20) : ∀ (n k : Nat), l.length - k < n → k ≤ l.length →
    ∃ r, f_F_across_L52 xs ys ord pn n st row on fl ke fs mn li wa wn ri rn (nI i) (nI (2 ^ p ||| 2 ^ q)) (nI k) = some (r, st, row, on, fl, ke, fs, mn, li, wa, wn, ri, rn) ∧ f_N_across_L99 tk xs ys n kn (nI l.length) na nb nc (nI i) (nI p) (nI q) (nI k) = some (r, kn, nI l.length, na, nb, nc) := by
  have h35 := hM.2.1
  intro n
  induction n with
  | zero => intro k h; exact absurd h (Nat.not_lt_zero _)
  | succ n ih =>
    intro k hn hk
    rw [f_F_across_L52, f_N_across_L99]
    dsimp only [Option.bind, f_M_size]
    by_cases e : k = l.length
    · rw [if_pos (show mn ≤ nI k by rw [hM.1, e]; exact nI_le (Nat.le_refl _) (by omega)), if_pos (nI_le (by omega) (by omega))]
      exact ⟨_, Eq.refl _, Eq.refl _⟩
    · have hk : k < l.length := by omega
      have ih' := ih (k + 1) (by omega) (by omega)
      have h20 := hM.2.2.1 _ (getD_mem3 hk)
      rw [if_neg (show ¬ mn ≤ nI k by rw [hM.1]; exact nI_ge hk (by omega)), if_neg (nI_ge hk (by omega)), s_cset hM hk, nI_1, s_Nhas hT (by omega) hk, s_Nhas hT (by omega) hk]
      dsimp only
      by_cases h1 : k = i
      · rw [if_pos (show nI k = nI i by rw [h1]), if_pos (show nI k = nI i by rw [h1])]
        exact ih'
      · have h1' : ¬ nI k = nI i := fun h => h1 ((nI_eq (by omega) (by omega)).mp h)
        rw [if_neg h1', if_neg h1']
        have sb := sub_bits h20.1 h20.2.1 h20.2.2 hp hq
        have kp := cnr_nI h20 hp
        have kq := cnr_nI h20 hq
        unfold cnr at kp kq
        by_cases h2 : nI (l.getD k (0, 0, 0)).1 = nI p ∨ nI (l.getD k (0, 0, 0)).2.1 = nI p ∨ nI (l.getD k (0, 0, 0)).2.2 = nI p
        · rw [if_pos h2, if_neg (show ¬ (1 : Int32) = 0 by decide)]
          by_cases h3 : nI (l.getD k (0, 0, 0)).1 = nI q ∨ nI (l.getD k (0, 0, 0)).2.1 = nI q ∨ nI (l.getD k (0, 0, 0)).2.2 = nI q
          · rw [if_pos h3, if_neg (show ¬ (1 : Int32) = 0 by decide), if_pos (sb.mpr ⟨kp.mp h2, kq.mp h3⟩)]
            exact ⟨_, Eq.refl _, Eq.refl _⟩
          · rw [if_neg h3, if_pos (Eq.refl (0 : Int32)), if_neg (fun h => h3 (kq.mpr (sb.mp h).2))]
            exact ih'
        · rw [if_neg h2, if_pos (Eq.refl (0 : Int32)), if_neg (fun h => h2 (kp.mpr (sb.mp h).1))]
          exact ih'
end Q
