/-- the law's function answers 1, whatever the script -/
theorem law_true {L : Nat} {xs : Nat → Int32} (hL : L ≤ 2560) : f_law L xs = some 1 := by
  have hI : PI (fun _ => 0) (fun _ => 0) (fun _ => 0) := ⟨fun i => show -1000000 ≤ (0 : Int32).toInt ∧ (0 : Int32).toInt ≤ 1000000 by decide, fun i => show -1000000 ≤ (0 : Int32).toInt ∧ (0 : Int32).toInt ≤ 1000000 by decide, fun i => Or.inl rfl, fun i h => (h rfl).elim, fun i j h => (h rfl).elim⟩
  have hO : OI (fun _ => 0) (fun _ => 0) (fun _ => 0) (fun _ => 0) 0 [] := ⟨nI_0.symm, fun k hk => absurd hk (Nat.not_lt_zero _), List.Pairwise.nil, fun i => ⟨fun h => (by cases h), fun h => (h rfl).elim⟩⟩
  have hf : flatL (ptf (fun _ => 0) (fun _ => 0)) [] := fun k _ hk => absurd hk (Nat.not_lt_zero _)
  have hT := flat_TL hI hO hf
  have hst : (0 : Int32) = 0 → ST (fun _ => 0) (fun _ => 0) (fun _ => 0) [] (fun _ => 0) (fun _ => 0) (fun _ => 0) (fun _ => 0) 0 0 := by
    intro _
    refine ⟨[], Or.inl ⟨hf, rfl⟩, ⟨nI_0.symm, Nat.zero_le _, fun k hk => absurd hk (Nat.not_lt_zero _)⟩, ?_, ?_, fun _ => ?_, fun h => absurd hf h⟩
    · rw [hT]
      exact ⟨nI_0.symm, Nat.zero_le _, fun t ht => (by cases ht), fun k hk => absurd hk (Nat.not_lt_zero _)⟩
    · rw [hT]
      exact fun k hk => absurd hk (Nat.not_lt_zero _)
    · refine ⟨fun _ => 0, fun a ha => ⟨nI_0.symm, show 0 < 2 ^ 20 by decide⟩, fun a b _ _ => ?_⟩
      rw [Nat.zero_testBit]
      exact ⟨fun q => (by cases q), fun ⟨i, _, hi, _⟩ => absurd hi (Nat.not_lt_zero _)⟩
  have h := law_loop (sc := xs) (fl := 1) (wa := fun _ => 0) (wn := 0) (ri := fun _ => 0) (rn := 0) (kn := 0) (ct := 0) (na := fun _ => 0) (nb := fun _ => 0) (nc := fun _ => 0) (rd := 0) (ed := fun _ => 0) hL 600 0 (Nat.zero_le _) (by omega) hI hO hst (fun z => absurd rfl z)
  rw [Nat.mul_zero, nI_0] at h
  exact h
theorem whole_start {p : Program} {e : Env} {s : State} {m : MethodId} {below : List Frame} {meth : Method} {c : Code} (l : Launch) {b L : Nat} {xs : Nat → Int32} (hL : L ≤ 2560) (C0 : lw_At p s m meth c b L xs) : W p l e room_1 s m #[Value.ref b] below meth c s.heap [] 0 0 (lw_Z below #[Value.ref b] s) (entryFrame m ([Value.ref b] : List Value).toArray 4) := start_of l (law_true hL) C0
