set_option maxHeartbeats 4000000 in
set_option maxRecDepth 100000 in
theorem c_P_init (l : Launch) (dC : Nat → ClassId) (dI : Nat → Nat → Nat) (cI cZ : ClassId) (gP : Nat) (sz : Nat) : Met l y_P_init w_P_init ({ frames := 1, cells := 4, slots := 80, locals := 12 } : Room) (PcW dC dI cI cZ [.ref gP] [(gP, .inr (1, [.null, .null, .null, .null, .int 0]))] sz) (QwC dC dI (va_A [(gP, .inr (1, [.null, .null, .null, .null, .int 0]))] sz) (fun u : Nat × Nat × Nat × Nat => [(gP, .inr (1, [.ref u.1, .ref u.2.1, .ref u.2.2.1, .ref u.2.2.2, .int 0])), (u.1, .inl (cI, 20, .inl (fun _ => 0))), (u.2.1, .inl (cI, 20, .inl (fun _ => 0))), (u.2.2.1, .inl (cZ, 20, .inl (fun _ => 0))), (u.2.2.2, .inl (cI, 20, .inl (fun _ => 0)))])) 4 80 (va_A [(gP, .inr (1, [.null, .null, .null, .null, .int 0]))] sz) := by
  refine Met.ofW (cc := b_P_init) (maxL := 1) (ret := none) (by decide) rfl ?_
  intro p e s m args below meth c s₁ B hml hv
  obtain ⟨rfl, hsz, hP, hK, hD0⟩ := hv
  have hx := B.exec
  have hb := B.bytes
  have hr := B.returns
  have hts : ∀ w ∈ BIG, w.before _ s = true := fun w hw => atoms_spec (ws := w_P_init) B.pre w (List.mem_cons_of_mem _ hw)
  have hown : s.vm.findClass R_P = some m.cls := findClass_of_methodNamed B.named
  have hlocks := B.notSynchronized
  have hin : meth.name = "<init>" := (name_of_methodNamed B.named B.method).1
  subst hsz
  have hD := hD0.self (sz := s.heap.size)
  generalize hAe : va_A [(gP, .inr (1, [.null, .null, .null, .null, .int 0]))] s.heap.size = A at hD ⊢
  have hA : ∀ q : Nat, s.heap.size ≤ q → A q := fun q h => by rw [← hAe]; exact Or.inr h
  have hS : va_S A s.heap s.heap [] := va_S.rf
  have hl := lv_entry ([.ref gP]) (n := 1) (Nat.le_of_ble_eq_true rfl)
  rw [lg_entry_eq]
  generalize (lg_sl ([.ref gP]) ++ List.replicate (1 - (lg_sl ([.ref gP])).length) Slot.unset).toArray = ls at hl ⊢
  have hl : lv_has ls 1 [(0, .ref gP)] := hl
  refine lv_aload_n hx hb d_P_init_0 rfl (lv_at hl 0 rfl) ?_
  refine W.objInit hx hb hown (hts _ bw_20) (hts _ bw_13) (hts _ bw_14) rfl (by rw [hml]; exact hl.1) rfl d_P_init_1 (Nat.le_of_ble_eq_true rfl) (Nat.le_of_ble_eq_true rfl) ?_
  refine W.eq (g2 := F0 m 4 ls []) rfl ?_
  refine lv_aload_n hx hb d_P_init_4 rfl (lv_at hl 0 rfl) ?_
  refine lv_bipush (v := (20 : Int32)) hx hb d_P_init_5 rfl ?_
  refine va_newa (atype := .int) (ty := .int) (a0 := (20, .inl (fun _ => 0))) (N' := 20) hx hb (hts _ bw_37) rfl hK.1 hP hD hS hA (fun _ => rfl) (by decide) rfl (by decide) (Nat.le_of_ble_eq_true rfl) (Nat.le_of_ble_eq_true rfl) d_P_init_7 (fun aXs cA H hK2 hP hD hS => ?_)
  have eA := cA_int hK2
  rw [eA] at hP hD
  clear eA hK2
  have hP : va_P (dC, dI) vwCl [(gP, .inr (1, [.null, .null, .null, .null, .int 0])), (aXs, .inl (cI, 20, .inl (fun _ => 0)))] H := hP
  have hD : va_D A [(gP, .inr (1, [.null, .null, .null, .null, .int 0])), (aXs, .inl (cI, 20, .inl (fun _ => 0)))] := hD
  refine va_putF (D := (dC, dI)) (ci := 1) (v := .ref aXs) (ty := .array .int) (C := R_P) (T := T_P) (N := 5) hx hb hts in_P ty_P tok_P nok_P hown hK.1 hP hD hS 0 rfl rfl 0 (by decide) (hts _ bw_21) (fun _ h9 => h9) rfl hin rfl (by decide +kernel) rfl rfl (Nat.le_of_ble_eq_true rfl) d_P_init_9 (fun H locs hP hD hS => ?_)
  have hP : va_P (dC, dI) vwCl [(gP, .inr (1, [.ref aXs, .null, .null, .null, .int 0])), (aXs, .inl (cI, 20, .inl (fun _ => 0)))] H := hP
  have hD : va_D A [(gP, .inr (1, [.ref aXs, .null, .null, .null, .int 0])), (aXs, .inl (cI, 20, .inl (fun _ => 0)))] := hD
  refine lv_aload_n hx hb d_P_init_12 rfl (lv_at hl 0 rfl) ?_
  refine lv_bipush (v := (20 : Int32)) hx hb d_P_init_13 rfl ?_
  refine va_newa (atype := .int) (ty := .int) (a0 := (20, .inl (fun _ => 0))) (N' := 20) hx hb (hts _ bw_37) rfl hK.1 hP hD hS hA (fun _ => rfl) (by decide) rfl (by decide) (Nat.le_of_ble_eq_true rfl) (Nat.le_of_ble_eq_true rfl) d_P_init_15 (fun aYs cA H hK2 hP hD hS => ?_)
  have eA := cA_int hK2
  rw [eA] at hP hD
  clear eA hK2
  have hP : va_P (dC, dI) vwCl [(gP, .inr (1, [.ref aXs, .null, .null, .null, .int 0])), (aXs, .inl (cI, 20, .inl (fun _ => 0))), (aYs, .inl (cI, 20, .inl (fun _ => 0)))] H := hP
  have hD : va_D A [(gP, .inr (1, [.ref aXs, .null, .null, .null, .int 0])), (aXs, .inl (cI, 20, .inl (fun _ => 0))), (aYs, .inl (cI, 20, .inl (fun _ => 0)))] := hD
  refine va_putF (D := (dC, dI)) (ci := 1) (v := .ref aYs) (ty := .array .int) (C := R_P) (T := T_P) (N := 5) hx hb hts in_P ty_P tok_P nok_P hown hK.1 hP hD hS 0 rfl rfl 1 (by decide) (hts _ bw_22) (fun _ h9 => h9) rfl hin rfl (by decide +kernel) rfl rfl (Nat.le_of_ble_eq_true rfl) d_P_init_17 (fun H locs hP hD hS => ?_)
  have hP : va_P (dC, dI) vwCl [(gP, .inr (1, [.ref aXs, .ref aYs, .null, .null, .int 0])), (aXs, .inl (cI, 20, .inl (fun _ => 0))), (aYs, .inl (cI, 20, .inl (fun _ => 0)))] H := hP
  have hD : va_D A [(gP, .inr (1, [.ref aXs, .ref aYs, .null, .null, .int 0])), (aXs, .inl (cI, 20, .inl (fun _ => 0))), (aYs, .inl (cI, 20, .inl (fun _ => 0)))] := hD
  refine lv_aload_n hx hb d_P_init_20 rfl (lv_at hl 0 rfl) ?_
  refine lv_bipush (v := (20 : Int32)) hx hb d_P_init_21 rfl ?_
  refine va_newa (atype := .boolean) (ty := .boolean) (a0 := (20, .inl (fun _ => 0))) (N' := 20) hx hb (hts _ bw_38) rfl hK.1 hP hD hS hA (fun _ => rfl) (by decide) rfl (by decide) (Nat.le_of_ble_eq_true rfl) (Nat.le_of_ble_eq_true rfl) d_P_init_23 (fun aTk cA H hK2 hP hD hS => ?_)
  have eA := cA_boolean hK2
  rw [eA] at hP hD
  clear eA hK2
  have hP : va_P (dC, dI) vwCl [(gP, .inr (1, [.ref aXs, .ref aYs, .null, .null, .int 0])), (aXs, .inl (cI, 20, .inl (fun _ => 0))), (aYs, .inl (cI, 20, .inl (fun _ => 0))), (aTk, .inl (cZ, 20, .inl (fun _ => 0)))] H := hP
  have hD : va_D A [(gP, .inr (1, [.ref aXs, .ref aYs, .null, .null, .int 0])), (aXs, .inl (cI, 20, .inl (fun _ => 0))), (aYs, .inl (cI, 20, .inl (fun _ => 0))), (aTk, .inl (cZ, 20, .inl (fun _ => 0)))] := hD
  refine va_putF (D := (dC, dI)) (ci := 1) (v := .ref aTk) (ty := .array .boolean) (C := R_P) (T := T_P) (N := 5) hx hb hts in_P ty_P tok_P nok_P hown hK.1 hP hD hS 0 rfl rfl 2 (by decide) (hts _ bw_23) (fun _ h9 => h9) rfl hin rfl (by decide +kernel) rfl rfl (Nat.le_of_ble_eq_true rfl) d_P_init_25 (fun H locs hP hD hS => ?_)
  have hP : va_P (dC, dI) vwCl [(gP, .inr (1, [.ref aXs, .ref aYs, .ref aTk, .null, .int 0])), (aXs, .inl (cI, 20, .inl (fun _ => 0))), (aYs, .inl (cI, 20, .inl (fun _ => 0))), (aTk, .inl (cZ, 20, .inl (fun _ => 0)))] H := hP
  have hD : va_D A [(gP, .inr (1, [.ref aXs, .ref aYs, .ref aTk, .null, .int 0])), (aXs, .inl (cI, 20, .inl (fun _ => 0))), (aYs, .inl (cI, 20, .inl (fun _ => 0))), (aTk, .inl (cZ, 20, .inl (fun _ => 0)))] := hD
  refine lv_aload_n hx hb d_P_init_28 rfl (lv_at hl 0 rfl) ?_
  refine lv_bipush (v := (20 : Int32)) hx hb d_P_init_29 rfl ?_
  refine va_newa (atype := .int) (ty := .int) (a0 := (20, .inl (fun _ => 0))) (N' := 20) hx hb (hts _ bw_37) rfl hK.1 hP hD hS hA (fun _ => rfl) (by decide) rfl (by decide) (Nat.le_of_ble_eq_true rfl) (Nat.le_of_ble_eq_true rfl) d_P_init_31 (fun aOr cA H hK2 hP hD hS => ?_)
  have eA := cA_int hK2
  rw [eA] at hP hD
  clear eA hK2
  have hP : va_P (dC, dI) vwCl [(gP, .inr (1, [.ref aXs, .ref aYs, .ref aTk, .null, .int 0])), (aXs, .inl (cI, 20, .inl (fun _ => 0))), (aYs, .inl (cI, 20, .inl (fun _ => 0))), (aTk, .inl (cZ, 20, .inl (fun _ => 0))), (aOr, .inl (cI, 20, .inl (fun _ => 0)))] H := hP
  have hD : va_D A [(gP, .inr (1, [.ref aXs, .ref aYs, .ref aTk, .null, .int 0])), (aXs, .inl (cI, 20, .inl (fun _ => 0))), (aYs, .inl (cI, 20, .inl (fun _ => 0))), (aTk, .inl (cZ, 20, .inl (fun _ => 0))), (aOr, .inl (cI, 20, .inl (fun _ => 0)))] := hD
  refine va_putF (D := (dC, dI)) (ci := 1) (v := .ref aOr) (ty := .array .int) (C := R_P) (T := T_P) (N := 5) hx hb hts in_P ty_P tok_P nok_P hown hK.1 hP hD hS 0 rfl rfl 3 (by decide) (hts _ bw_24) (fun _ h9 => h9) rfl hin rfl (by decide +kernel) rfl rfl (Nat.le_of_ble_eq_true rfl) d_P_init_33 (fun H locs hP hD hS => ?_)
  have hP : va_P (dC, dI) vwCl [(gP, .inr (1, [.ref aXs, .ref aYs, .ref aTk, .ref aOr, .int 0])), (aXs, .inl (cI, 20, .inl (fun _ => 0))), (aYs, .inl (cI, 20, .inl (fun _ => 0))), (aTk, .inl (cZ, 20, .inl (fun _ => 0))), (aOr, .inl (cI, 20, .inl (fun _ => 0)))] H := hP
  have hD : va_D A [(gP, .inr (1, [.ref aXs, .ref aYs, .ref aTk, .ref aOr, .int 0])), (aXs, .inl (cI, 20, .inl (fun _ => 0))), (aYs, .inl (cI, 20, .inl (fun _ => 0))), (aTk, .inl (cZ, 20, .inl (fun _ => 0))), (aOr, .inl (cI, 20, .inl (fun _ => 0)))] := hD
  refine lv_aload_n hx hb d_P_init_36 rfl (lv_at hl 0 rfl) ?_
  refine lv_iconst (v := (0 : Int32)) hx hb d_P_init_37 rfl ?_
  refine va_put (D := (dC, dI)) (ci := 1) (v := .int 0) (ty := .int) (C := R_P) (T := T_P) (N := 5) hx hb hts in_P ty_P tok_P nok_P hown hK.1 hP hD hS 0 rfl rfl 4 (by decide) (hts _ bw_25) (fun _ h9 => h9) rfl (by decide +kernel) rfl rfl (Nat.le_of_ble_eq_true rfl) d_P_init_38 (fun H locs hP hD hS => ?_)
  have hP : va_P (dC, dI) vwCl [(gP, .inr (1, [.ref aXs, .ref aYs, .ref aTk, .ref aOr, .int 0])), (aXs, .inl (cI, 20, .inl (fun _ => 0))), (aYs, .inl (cI, 20, .inl (fun _ => 0))), (aTk, .inl (cZ, 20, .inl (fun _ => 0))), (aOr, .inl (cI, 20, .inl (fun _ => 0)))] H := hP
  have hD : va_D A [(gP, .inr (1, [.ref aXs, .ref aYs, .ref aTk, .ref aOr, .int 0])), (aXs, .inl (cI, 20, .inl (fun _ => 0))), (aYs, .inl (cI, 20, .inl (fun _ => 0))), (aTk, .inl (cZ, 20, .inl (fun _ => 0))), (aOr, .inl (cI, 20, .inl (fun _ => 0)))] := hD
  refine W.widen (k := 4) (n := 80) (Nat.le_of_ble_eq_true rfl) (Nat.le_of_ble_eq_true rfl) ?_
  have hP9 := hP.sub (ws' := [(gP, .inr (1, [.ref aXs, .ref aYs, .ref aTk, .ref aOr, .int 0])), (aXs, .inl (cI, 20, .inl (fun _ => 0))), (aYs, .inl (cI, 20, .inl (fun _ => 0))), (aTk, .inl (cZ, 20, .inl (fun _ => 0))), (aOr, .inl (cI, 20, .inl (fun _ => 0)))]) [0, 1, 2, 3, 4] rfl
  have hD9 := hD.sub (ws' := [(gP, .inr (1, [.ref aXs, .ref aYs, .ref aTk, .ref aOr, .int 0])), (aXs, .inl (cI, 20, .inl (fun _ => 0))), (aYs, .inl (cI, 20, .inl (fun _ => 0))), (aTk, .inl (cZ, 20, .inl (fun _ => 0))), (aOr, .inl (cI, 20, .inl (fun _ => 0)))]) [0, 1, 2, 3, 4] (by decide) rfl
  exact W.vret hx hb hr (fun t ht _ => ⟨⟨(aXs, aYs, aTk, aOr), rfl, trivial, by rw [ht]; exact hP9, hD9⟩, hS.F ht⟩) hS.2.2 d_P_init_41
set_option maxHeartbeats 4000000 in
set_option maxRecDepth 100000 in
theorem c_O_init (l : Launch) (dC : Nat → ClassId) (dI : Nat → Nat → Nat) (cI cZ : ClassId) (gO : Nat) (sz : Nat) : Met l y_O_init w_O_init ({ frames := 1, cells := 1, slots := 40, locals := 12 } : Room) (PcW dC dI cI cZ [.ref gO] [(gO, .inr (2, [.null, .int 0, .int 0]))] sz) (QwC dC dI (va_A [(gO, .inr (2, [.null, .int 0, .int 0]))] sz) (fun u : Nat => [(gO, .inr (2, [.ref u, .int 0, .int 1])), (u, .inl (cI, 40, .inl (fun _ => 0)))])) 1 40 (va_A [(gO, .inr (2, [.null, .int 0, .int 0]))] sz) := by
  refine Met.ofW (cc := b_O_init) (maxL := 1) (ret := none) (by decide) rfl ?_
  intro p e s m args below meth c s₁ B hml hv
  obtain ⟨rfl, hsz, hP, hK, hD0⟩ := hv
  have hx := B.exec
  have hb := B.bytes
  have hr := B.returns
  have hts : ∀ w ∈ BIG, w.before _ s = true := fun w hw => atoms_spec (ws := w_O_init) B.pre w (List.mem_cons_of_mem _ hw)
  have hown : s.vm.findClass R_O = some m.cls := findClass_of_methodNamed B.named
  have hlocks := B.notSynchronized
  have hin : meth.name = "<init>" := (name_of_methodNamed B.named B.method).1
  subst hsz
  have hD := hD0.self (sz := s.heap.size)
  generalize hAe : va_A [(gO, .inr (2, [.null, .int 0, .int 0]))] s.heap.size = A at hD ⊢
  have hA : ∀ q : Nat, s.heap.size ≤ q → A q := fun q h => by rw [← hAe]; exact Or.inr h
  have hS : va_S A s.heap s.heap [] := va_S.rf
  have hl := lv_entry ([.ref gO]) (n := 1) (Nat.le_of_ble_eq_true rfl)
  rw [lg_entry_eq]
  generalize (lg_sl ([.ref gO]) ++ List.replicate (1 - (lg_sl ([.ref gO])).length) Slot.unset).toArray = ls at hl ⊢
  have hl : lv_has ls 1 [(0, .ref gO)] := hl
  refine lv_aload_n hx hb d_O_init_0 rfl (lv_at hl 0 rfl) ?_
  refine W.objInit hx hb hown (hts _ bw_44) (hts _ bw_13) (hts _ bw_14) rfl (by rw [hml]; exact hl.1) rfl d_O_init_1 (Nat.le_of_ble_eq_true rfl) (Nat.le_of_ble_eq_true rfl) ?_
  refine W.eq (g2 := F0 m 4 ls []) rfl ?_
  refine lv_aload_n hx hb d_O_init_4 rfl (lv_at hl 0 rfl) ?_
  refine lv_bipush (v := (40 : Int32)) hx hb d_O_init_5 rfl ?_
  refine va_newa (atype := .int) (ty := .int) (a0 := (40, .inl (fun _ => 0))) (N' := 40) hx hb (hts _ bw_37) rfl hK.1 hP hD hS hA (fun _ => rfl) (by decide) rfl (by decide) (Nat.le_of_ble_eq_true rfl) (Nat.le_of_ble_eq_true rfl) d_O_init_7 (fun aRow cA H hK2 hP hD hS => ?_)
  have eA := cA_int hK2
  rw [eA] at hP hD
  clear eA hK2
  have hP : va_P (dC, dI) vwCl [(gO, .inr (2, [.null, .int 0, .int 0])), (aRow, .inl (cI, 40, .inl (fun _ => 0)))] H := hP
  have hD : va_D A [(gO, .inr (2, [.null, .int 0, .int 0])), (aRow, .inl (cI, 40, .inl (fun _ => 0)))] := hD
  refine va_putF (D := (dC, dI)) (ci := 2) (v := .ref aRow) (ty := .array .int) (C := R_O) (T := T_O) (N := 3) hx hb hts in_O ty_O tok_O nok_O hown hK.1 hP hD hS 0 rfl rfl 0 (by decide) (hts _ bw_45) (fun _ h9 => h9) rfl hin rfl (by decide +kernel) rfl rfl (Nat.le_of_ble_eq_true rfl) d_O_init_9 (fun H locs hP hD hS => ?_)
  have hP : va_P (dC, dI) vwCl [(gO, .inr (2, [.ref aRow, .int 0, .int 0])), (aRow, .inl (cI, 40, .inl (fun _ => 0)))] H := hP
  have hD : va_D A [(gO, .inr (2, [.ref aRow, .int 0, .int 0])), (aRow, .inl (cI, 40, .inl (fun _ => 0)))] := hD
  refine lv_aload_n hx hb d_O_init_12 rfl (lv_at hl 0 rfl) ?_
  refine lv_iconst (v := (0 : Int32)) hx hb d_O_init_13 rfl ?_
  refine va_put (D := (dC, dI)) (ci := 2) (v := .int 0) (ty := .int) (C := R_O) (T := T_O) (N := 3) hx hb hts in_O ty_O tok_O nok_O hown hK.1 hP hD hS 0 rfl rfl 1 (by decide) (hts _ bw_46) (fun _ h9 => h9) rfl (by decide +kernel) rfl rfl (Nat.le_of_ble_eq_true rfl) d_O_init_14 (fun H locs hP hD hS => ?_)
  have hP : va_P (dC, dI) vwCl [(gO, .inr (2, [.ref aRow, .int 0, .int 0])), (aRow, .inl (cI, 40, .inl (fun _ => 0)))] H := hP
  have hD : va_D A [(gO, .inr (2, [.ref aRow, .int 0, .int 0])), (aRow, .inl (cI, 40, .inl (fun _ => 0)))] := hD
  refine lv_aload_n hx hb d_O_init_17 rfl (lv_at hl 0 rfl) ?_
  refine lv_iconst (v := (1 : Int32)) hx hb d_O_init_18 rfl ?_
  refine va_put (D := (dC, dI)) (ci := 2) (v := .int 1) (ty := .boolean) (C := R_O) (T := T_O) (N := 3) hx hb hts in_O ty_O tok_O nok_O hown hK.1 hP hD hS 0 rfl rfl 2 (by decide) (hts _ bw_47) (fun _ h9 => h9) rfl (by decide +kernel) rfl rfl (Nat.le_of_ble_eq_true rfl) d_O_init_19 (fun H locs hP hD hS => ?_)
  have hP : va_P (dC, dI) vwCl [(gO, .inr (2, [.ref aRow, .int 0, .int 1])), (aRow, .inl (cI, 40, .inl (fun _ => 0)))] H := hP
  have hD : va_D A [(gO, .inr (2, [.ref aRow, .int 0, .int 1])), (aRow, .inl (cI, 40, .inl (fun _ => 0)))] := hD
  refine W.widen (k := 1) (n := 40) (Nat.le_of_ble_eq_true rfl) (Nat.le_of_ble_eq_true rfl) ?_
  have hP9 := hP.sub (ws' := [(gO, .inr (2, [.ref aRow, .int 0, .int 1])), (aRow, .inl (cI, 40, .inl (fun _ => 0)))]) [0, 1] rfl
  have hD9 := hD.sub (ws' := [(gO, .inr (2, [.ref aRow, .int 0, .int 1])), (aRow, .inl (cI, 40, .inl (fun _ => 0)))]) [0, 1] (by decide) rfl
  exact W.vret hx hb hr (fun t ht _ => ⟨⟨aRow, rfl, trivial, by rw [ht]; exact hP9, hD9⟩, hS.F ht⟩) hS.2.2 d_O_init_22
set_option maxHeartbeats 4000000 in
set_option maxRecDepth 100000 in
theorem c_M_init (l : Launch) (dC : Nat → ClassId) (dI : Nat → Nat → Nat) (cI cZ : ClassId) (gM : Nat) (sz : Nat) : Met l y_M_init w_M_init ({ frames := 1, cells := 5, slots := 164, locals := 12 } : Room) (PcW dC dI cI cZ [.ref gM] [(gM, .inr (3, [.null, .null, .int 0, .null, .null, .int 0, .null, .int 0]))] sz) (QwC dC dI (va_A [(gM, .inr (3, [.null, .null, .int 0, .null, .null, .int 0, .null, .int 0]))] sz) (fun u : Nat × Nat × Nat × Nat × Nat => [(gM, .inr (3, [.ref u.1, .ref u.2.1, .int 0, .ref u.2.2.1, .ref u.2.2.2.1, .int 0, .ref u.2.2.2.2, .int 0])), (u.1, .inl (cI, 35, .inl (fun _ => 0))), (u.2.1, .inl (cI, 35, .inl (fun _ => 0))), (u.2.2.1, .inl (cI, 20, .inl (fun _ => 0))), (u.2.2.2.1, .inl (cI, 54, .inl (fun _ => 0))), (u.2.2.2.2, .inl (cI, 20, .inl (fun _ => 0)))])) 5 164 (va_A [(gM, .inr (3, [.null, .null, .int 0, .null, .null, .int 0, .null, .int 0]))] sz) := by
  refine Met.ofW (cc := b_M_init) (maxL := 1) (ret := none) (by decide) rfl ?_
  intro p e s m args below meth c s₁ B hml hv
  obtain ⟨rfl, hsz, hP, hK, hD0⟩ := hv
  have hx := B.exec
  have hb := B.bytes
  have hr := B.returns
  have hts : ∀ w ∈ BIG, w.before _ s = true := fun w hw => atoms_spec (ws := w_M_init) B.pre w (List.mem_cons_of_mem _ hw)
  have hown : s.vm.findClass R_M = some m.cls := findClass_of_methodNamed B.named
  have hlocks := B.notSynchronized
  have hin : meth.name = "<init>" := (name_of_methodNamed B.named B.method).1
  subst hsz
  have hD := hD0.self (sz := s.heap.size)
  generalize hAe : va_A [(gM, .inr (3, [.null, .null, .int 0, .null, .null, .int 0, .null, .int 0]))] s.heap.size = A at hD ⊢
  have hA : ∀ q : Nat, s.heap.size ≤ q → A q := fun q h => by rw [← hAe]; exact Or.inr h
  have hS : va_S A s.heap s.heap [] := va_S.rf
  have hl := lv_entry ([.ref gM]) (n := 1) (Nat.le_of_ble_eq_true rfl)
  rw [lg_entry_eq]
  generalize (lg_sl ([.ref gM]) ++ List.replicate (1 - (lg_sl ([.ref gM])).length) Slot.unset).toArray = ls at hl ⊢
  have hl : lv_has ls 1 [(0, .ref gM)] := hl
  refine lv_aload_n hx hb d_M_init_0 rfl (lv_at hl 0 rfl) ?_
  refine W.objInit hx hb hown (hts _ bw_60) (hts _ bw_13) (hts _ bw_14) rfl (by rw [hml]; exact hl.1) rfl d_M_init_1 (Nat.le_of_ble_eq_true rfl) (Nat.le_of_ble_eq_true rfl) ?_
  refine W.eq (g2 := F0 m 4 ls []) rfl ?_
  refine lv_aload_n hx hb d_M_init_4 rfl (lv_at hl 0 rfl) ?_
  refine lv_bipush (v := (35 : Int32)) hx hb d_M_init_5 rfl ?_
  refine va_newa (atype := .int) (ty := .int) (a0 := (35, .inl (fun _ => 0))) (N' := 35) hx hb (hts _ bw_37) rfl hK.1 hP hD hS hA (fun _ => rfl) (by decide) rfl (by decide) (Nat.le_of_ble_eq_true rfl) (Nat.le_of_ble_eq_true rfl) d_M_init_7 (fun aKe cA H hK2 hP hD hS => ?_)
  have eA := cA_int hK2
  rw [eA] at hP hD
  clear eA hK2
  have hP : va_P (dC, dI) vwCl [(gM, .inr (3, [.null, .null, .int 0, .null, .null, .int 0, .null, .int 0])), (aKe, .inl (cI, 35, .inl (fun _ => 0)))] H := hP
  have hD : va_D A [(gM, .inr (3, [.null, .null, .int 0, .null, .null, .int 0, .null, .int 0])), (aKe, .inl (cI, 35, .inl (fun _ => 0)))] := hD
  refine va_putF (D := (dC, dI)) (ci := 3) (v := .ref aKe) (ty := .array .int) (C := R_M) (T := T_M) (N := 8) hx hb hts in_M ty_M tok_M nok_M hown hK.1 hP hD hS 0 rfl rfl 0 (by decide) (hts _ bw_61) (fun _ h9 => h9) rfl hin rfl (by decide +kernel) rfl rfl (Nat.le_of_ble_eq_true rfl) d_M_init_9 (fun H locs hP hD hS => ?_)
  have hP : va_P (dC, dI) vwCl [(gM, .inr (3, [.ref aKe, .null, .int 0, .null, .null, .int 0, .null, .int 0])), (aKe, .inl (cI, 35, .inl (fun _ => 0)))] H := hP
  have hD : va_D A [(gM, .inr (3, [.ref aKe, .null, .int 0, .null, .null, .int 0, .null, .int 0])), (aKe, .inl (cI, 35, .inl (fun _ => 0)))] := hD
  refine lv_aload_n hx hb d_M_init_12 rfl (lv_at hl 0 rfl) ?_
  refine lv_bipush (v := (35 : Int32)) hx hb d_M_init_13 rfl ?_
  refine va_newa (atype := .int) (ty := .int) (a0 := (35, .inl (fun _ => 0))) (N' := 35) hx hb (hts _ bw_37) rfl hK.1 hP hD hS hA (fun _ => rfl) (by decide) rfl (by decide) (Nat.le_of_ble_eq_true rfl) (Nat.le_of_ble_eq_true rfl) d_M_init_15 (fun aFs cA H hK2 hP hD hS => ?_)
  have eA := cA_int hK2
  rw [eA] at hP hD
  clear eA hK2
  have hP : va_P (dC, dI) vwCl [(gM, .inr (3, [.ref aKe, .null, .int 0, .null, .null, .int 0, .null, .int 0])), (aKe, .inl (cI, 35, .inl (fun _ => 0))), (aFs, .inl (cI, 35, .inl (fun _ => 0)))] H := hP
  have hD : va_D A [(gM, .inr (3, [.ref aKe, .null, .int 0, .null, .null, .int 0, .null, .int 0])), (aKe, .inl (cI, 35, .inl (fun _ => 0))), (aFs, .inl (cI, 35, .inl (fun _ => 0)))] := hD
  refine va_putF (D := (dC, dI)) (ci := 3) (v := .ref aFs) (ty := .array .int) (C := R_M) (T := T_M) (N := 8) hx hb hts in_M ty_M tok_M nok_M hown hK.1 hP hD hS 0 rfl rfl 1 (by decide) (hts _ bw_62) (fun _ h9 => h9) rfl hin rfl (by decide +kernel) rfl rfl (Nat.le_of_ble_eq_true rfl) d_M_init_17 (fun H locs hP hD hS => ?_)
  have hP : va_P (dC, dI) vwCl [(gM, .inr (3, [.ref aKe, .ref aFs, .int 0, .null, .null, .int 0, .null, .int 0])), (aKe, .inl (cI, 35, .inl (fun _ => 0))), (aFs, .inl (cI, 35, .inl (fun _ => 0)))] H := hP
  have hD : va_D A [(gM, .inr (3, [.ref aKe, .ref aFs, .int 0, .null, .null, .int 0, .null, .int 0])), (aKe, .inl (cI, 35, .inl (fun _ => 0))), (aFs, .inl (cI, 35, .inl (fun _ => 0)))] := hD
  refine lv_aload_n hx hb d_M_init_20 rfl (lv_at hl 0 rfl) ?_
  refine lv_iconst (v := (0 : Int32)) hx hb d_M_init_21 rfl ?_
  refine va_put (D := (dC, dI)) (ci := 3) (v := .int 0) (ty := .int) (C := R_M) (T := T_M) (N := 8) hx hb hts in_M ty_M tok_M nok_M hown hK.1 hP hD hS 0 rfl rfl 2 (by decide) (hts _ bw_63) (fun _ h9 => h9) rfl (by decide +kernel) rfl rfl (Nat.le_of_ble_eq_true rfl) d_M_init_22 (fun H locs hP hD hS => ?_)
  have hP : va_P (dC, dI) vwCl [(gM, .inr (3, [.ref aKe, .ref aFs, .int 0, .null, .null, .int 0, .null, .int 0])), (aKe, .inl (cI, 35, .inl (fun _ => 0))), (aFs, .inl (cI, 35, .inl (fun _ => 0)))] H := hP
  have hD : va_D A [(gM, .inr (3, [.ref aKe, .ref aFs, .int 0, .null, .null, .int 0, .null, .int 0])), (aKe, .inl (cI, 35, .inl (fun _ => 0))), (aFs, .inl (cI, 35, .inl (fun _ => 0)))] := hD
  refine lv_aload_n hx hb d_M_init_25 rfl (lv_at hl 0 rfl) ?_
  refine lv_bipush (v := (20 : Int32)) hx hb d_M_init_26 rfl ?_
  refine va_newa (atype := .int) (ty := .int) (a0 := (20, .inl (fun _ => 0))) (N' := 20) hx hb (hts _ bw_37) rfl hK.1 hP hD hS hA (fun _ => rfl) (by decide) rfl (by decide) (Nat.le_of_ble_eq_true rfl) (Nat.le_of_ble_eq_true rfl) d_M_init_28 (fun aLi cA H hK2 hP hD hS => ?_)
  have eA := cA_int hK2
  rw [eA] at hP hD
  clear eA hK2
  have hP : va_P (dC, dI) vwCl [(gM, .inr (3, [.ref aKe, .ref aFs, .int 0, .null, .null, .int 0, .null, .int 0])), (aKe, .inl (cI, 35, .inl (fun _ => 0))), (aFs, .inl (cI, 35, .inl (fun _ => 0))), (aLi, .inl (cI, 20, .inl (fun _ => 0)))] H := hP
  have hD : va_D A [(gM, .inr (3, [.ref aKe, .ref aFs, .int 0, .null, .null, .int 0, .null, .int 0])), (aKe, .inl (cI, 35, .inl (fun _ => 0))), (aFs, .inl (cI, 35, .inl (fun _ => 0))), (aLi, .inl (cI, 20, .inl (fun _ => 0)))] := hD
  refine va_putF (D := (dC, dI)) (ci := 3) (v := .ref aLi) (ty := .array .int) (C := R_M) (T := T_M) (N := 8) hx hb hts in_M ty_M tok_M nok_M hown hK.1 hP hD hS 0 rfl rfl 3 (by decide) (hts _ bw_64) (fun _ h9 => h9) rfl hin rfl (by decide +kernel) rfl rfl (Nat.le_of_ble_eq_true rfl) d_M_init_30 (fun H locs hP hD hS => ?_)
  have hP : va_P (dC, dI) vwCl [(gM, .inr (3, [.ref aKe, .ref aFs, .int 0, .ref aLi, .null, .int 0, .null, .int 0])), (aKe, .inl (cI, 35, .inl (fun _ => 0))), (aFs, .inl (cI, 35, .inl (fun _ => 0))), (aLi, .inl (cI, 20, .inl (fun _ => 0)))] H := hP
  have hD : va_D A [(gM, .inr (3, [.ref aKe, .ref aFs, .int 0, .ref aLi, .null, .int 0, .null, .int 0])), (aKe, .inl (cI, 35, .inl (fun _ => 0))), (aFs, .inl (cI, 35, .inl (fun _ => 0))), (aLi, .inl (cI, 20, .inl (fun _ => 0)))] := hD
  refine lv_aload_n hx hb d_M_init_33 rfl (lv_at hl 0 rfl) ?_
  refine lv_bipush (v := (54 : Int32)) hx hb d_M_init_34 rfl ?_
  refine va_newa (atype := .int) (ty := .int) (a0 := (54, .inl (fun _ => 0))) (N' := 54) hx hb (hts _ bw_37) rfl hK.1 hP hD hS hA (fun _ => rfl) (by decide) rfl (by decide) (Nat.le_of_ble_eq_true rfl) (Nat.le_of_ble_eq_true rfl) d_M_init_36 (fun aWa cA H hK2 hP hD hS => ?_)
  have eA := cA_int hK2
  rw [eA] at hP hD
  clear eA hK2
  have hP : va_P (dC, dI) vwCl [(gM, .inr (3, [.ref aKe, .ref aFs, .int 0, .ref aLi, .null, .int 0, .null, .int 0])), (aKe, .inl (cI, 35, .inl (fun _ => 0))), (aFs, .inl (cI, 35, .inl (fun _ => 0))), (aLi, .inl (cI, 20, .inl (fun _ => 0))), (aWa, .inl (cI, 54, .inl (fun _ => 0)))] H := hP
  have hD : va_D A [(gM, .inr (3, [.ref aKe, .ref aFs, .int 0, .ref aLi, .null, .int 0, .null, .int 0])), (aKe, .inl (cI, 35, .inl (fun _ => 0))), (aFs, .inl (cI, 35, .inl (fun _ => 0))), (aLi, .inl (cI, 20, .inl (fun _ => 0))), (aWa, .inl (cI, 54, .inl (fun _ => 0)))] := hD
  refine va_putF (D := (dC, dI)) (ci := 3) (v := .ref aWa) (ty := .array .int) (C := R_M) (T := T_M) (N := 8) hx hb hts in_M ty_M tok_M nok_M hown hK.1 hP hD hS 0 rfl rfl 4 (by decide) (hts _ bw_65) (fun _ h9 => h9) rfl hin rfl (by decide +kernel) rfl rfl (Nat.le_of_ble_eq_true rfl) d_M_init_38 (fun H locs hP hD hS => ?_)
  have hP : va_P (dC, dI) vwCl [(gM, .inr (3, [.ref aKe, .ref aFs, .int 0, .ref aLi, .ref aWa, .int 0, .null, .int 0])), (aKe, .inl (cI, 35, .inl (fun _ => 0))), (aFs, .inl (cI, 35, .inl (fun _ => 0))), (aLi, .inl (cI, 20, .inl (fun _ => 0))), (aWa, .inl (cI, 54, .inl (fun _ => 0)))] H := hP
  have hD : va_D A [(gM, .inr (3, [.ref aKe, .ref aFs, .int 0, .ref aLi, .ref aWa, .int 0, .null, .int 0])), (aKe, .inl (cI, 35, .inl (fun _ => 0))), (aFs, .inl (cI, 35, .inl (fun _ => 0))), (aLi, .inl (cI, 20, .inl (fun _ => 0))), (aWa, .inl (cI, 54, .inl (fun _ => 0)))] := hD
  refine lv_aload_n hx hb d_M_init_41 rfl (lv_at hl 0 rfl) ?_
  refine lv_iconst (v := (0 : Int32)) hx hb d_M_init_42 rfl ?_
  refine va_put (D := (dC, dI)) (ci := 3) (v := .int 0) (ty := .int) (C := R_M) (T := T_M) (N := 8) hx hb hts in_M ty_M tok_M nok_M hown hK.1 hP hD hS 0 rfl rfl 5 (by decide) (hts _ bw_66) (fun _ h9 => h9) rfl (by decide +kernel) rfl rfl (Nat.le_of_ble_eq_true rfl) d_M_init_43 (fun H locs hP hD hS => ?_)
  have hP : va_P (dC, dI) vwCl [(gM, .inr (3, [.ref aKe, .ref aFs, .int 0, .ref aLi, .ref aWa, .int 0, .null, .int 0])), (aKe, .inl (cI, 35, .inl (fun _ => 0))), (aFs, .inl (cI, 35, .inl (fun _ => 0))), (aLi, .inl (cI, 20, .inl (fun _ => 0))), (aWa, .inl (cI, 54, .inl (fun _ => 0)))] H := hP
  have hD : va_D A [(gM, .inr (3, [.ref aKe, .ref aFs, .int 0, .ref aLi, .ref aWa, .int 0, .null, .int 0])), (aKe, .inl (cI, 35, .inl (fun _ => 0))), (aFs, .inl (cI, 35, .inl (fun _ => 0))), (aLi, .inl (cI, 20, .inl (fun _ => 0))), (aWa, .inl (cI, 54, .inl (fun _ => 0)))] := hD
  refine lv_aload_n hx hb d_M_init_46 rfl (lv_at hl 0 rfl) ?_
  refine lv_bipush (v := (20 : Int32)) hx hb d_M_init_47 rfl ?_
  refine va_newa (atype := .int) (ty := .int) (a0 := (20, .inl (fun _ => 0))) (N' := 20) hx hb (hts _ bw_37) rfl hK.1 hP hD hS hA (fun _ => rfl) (by decide) rfl (by decide) (Nat.le_of_ble_eq_true rfl) (Nat.le_of_ble_eq_true rfl) d_M_init_49 (fun aRi cA H hK2 hP hD hS => ?_)
  have eA := cA_int hK2
  rw [eA] at hP hD
  clear eA hK2
  have hP : va_P (dC, dI) vwCl [(gM, .inr (3, [.ref aKe, .ref aFs, .int 0, .ref aLi, .ref aWa, .int 0, .null, .int 0])), (aKe, .inl (cI, 35, .inl (fun _ => 0))), (aFs, .inl (cI, 35, .inl (fun _ => 0))), (aLi, .inl (cI, 20, .inl (fun _ => 0))), (aWa, .inl (cI, 54, .inl (fun _ => 0))), (aRi, .inl (cI, 20, .inl (fun _ => 0)))] H := hP
  have hD : va_D A [(gM, .inr (3, [.ref aKe, .ref aFs, .int 0, .ref aLi, .ref aWa, .int 0, .null, .int 0])), (aKe, .inl (cI, 35, .inl (fun _ => 0))), (aFs, .inl (cI, 35, .inl (fun _ => 0))), (aLi, .inl (cI, 20, .inl (fun _ => 0))), (aWa, .inl (cI, 54, .inl (fun _ => 0))), (aRi, .inl (cI, 20, .inl (fun _ => 0)))] := hD
  refine va_putF (D := (dC, dI)) (ci := 3) (v := .ref aRi) (ty := .array .int) (C := R_M) (T := T_M) (N := 8) hx hb hts in_M ty_M tok_M nok_M hown hK.1 hP hD hS 0 rfl rfl 6 (by decide) (hts _ bw_67) (fun _ h9 => h9) rfl hin rfl (by decide +kernel) rfl rfl (Nat.le_of_ble_eq_true rfl) d_M_init_51 (fun H locs hP hD hS => ?_)
  have hP : va_P (dC, dI) vwCl [(gM, .inr (3, [.ref aKe, .ref aFs, .int 0, .ref aLi, .ref aWa, .int 0, .ref aRi, .int 0])), (aKe, .inl (cI, 35, .inl (fun _ => 0))), (aFs, .inl (cI, 35, .inl (fun _ => 0))), (aLi, .inl (cI, 20, .inl (fun _ => 0))), (aWa, .inl (cI, 54, .inl (fun _ => 0))), (aRi, .inl (cI, 20, .inl (fun _ => 0)))] H := hP
  have hD : va_D A [(gM, .inr (3, [.ref aKe, .ref aFs, .int 0, .ref aLi, .ref aWa, .int 0, .ref aRi, .int 0])), (aKe, .inl (cI, 35, .inl (fun _ => 0))), (aFs, .inl (cI, 35, .inl (fun _ => 0))), (aLi, .inl (cI, 20, .inl (fun _ => 0))), (aWa, .inl (cI, 54, .inl (fun _ => 0))), (aRi, .inl (cI, 20, .inl (fun _ => 0)))] := hD
  refine lv_aload_n hx hb d_M_init_54 rfl (lv_at hl 0 rfl) ?_
  refine lv_iconst (v := (0 : Int32)) hx hb d_M_init_55 rfl ?_
  refine va_put (D := (dC, dI)) (ci := 3) (v := .int 0) (ty := .int) (C := R_M) (T := T_M) (N := 8) hx hb hts in_M ty_M tok_M nok_M hown hK.1 hP hD hS 0 rfl rfl 7 (by decide) (hts _ bw_68) (fun _ h9 => h9) rfl (by decide +kernel) rfl rfl (Nat.le_of_ble_eq_true rfl) d_M_init_56 (fun H locs hP hD hS => ?_)
  have hP : va_P (dC, dI) vwCl [(gM, .inr (3, [.ref aKe, .ref aFs, .int 0, .ref aLi, .ref aWa, .int 0, .ref aRi, .int 0])), (aKe, .inl (cI, 35, .inl (fun _ => 0))), (aFs, .inl (cI, 35, .inl (fun _ => 0))), (aLi, .inl (cI, 20, .inl (fun _ => 0))), (aWa, .inl (cI, 54, .inl (fun _ => 0))), (aRi, .inl (cI, 20, .inl (fun _ => 0)))] H := hP
  have hD : va_D A [(gM, .inr (3, [.ref aKe, .ref aFs, .int 0, .ref aLi, .ref aWa, .int 0, .ref aRi, .int 0])), (aKe, .inl (cI, 35, .inl (fun _ => 0))), (aFs, .inl (cI, 35, .inl (fun _ => 0))), (aLi, .inl (cI, 20, .inl (fun _ => 0))), (aWa, .inl (cI, 54, .inl (fun _ => 0))), (aRi, .inl (cI, 20, .inl (fun _ => 0)))] := hD
  refine W.widen (k := 5) (n := 164) (Nat.le_of_ble_eq_true rfl) (Nat.le_of_ble_eq_true rfl) ?_
  have hP9 := hP.sub (ws' := [(gM, .inr (3, [.ref aKe, .ref aFs, .int 0, .ref aLi, .ref aWa, .int 0, .ref aRi, .int 0])), (aKe, .inl (cI, 35, .inl (fun _ => 0))), (aFs, .inl (cI, 35, .inl (fun _ => 0))), (aLi, .inl (cI, 20, .inl (fun _ => 0))), (aWa, .inl (cI, 54, .inl (fun _ => 0))), (aRi, .inl (cI, 20, .inl (fun _ => 0)))]) [0, 1, 2, 3, 4, 5] rfl
  have hD9 := hD.sub (ws' := [(gM, .inr (3, [.ref aKe, .ref aFs, .int 0, .ref aLi, .ref aWa, .int 0, .ref aRi, .int 0])), (aKe, .inl (cI, 35, .inl (fun _ => 0))), (aFs, .inl (cI, 35, .inl (fun _ => 0))), (aLi, .inl (cI, 20, .inl (fun _ => 0))), (aWa, .inl (cI, 54, .inl (fun _ => 0))), (aRi, .inl (cI, 20, .inl (fun _ => 0)))]) [0, 1, 2, 3, 4, 5] (by decide) rfl
  exact W.vret hx hb hr (fun t ht _ => ⟨⟨(aKe, aFs, aLi, aWa, aRi), rfl, trivial, by rw [ht]; exact hP9, hD9⟩, hS.F ht⟩) hS.2.2 d_M_init_59
set_option maxHeartbeats 4000000 in
set_option maxRecDepth 100000 in
theorem c_F_init (l : Launch) (dC : Nat → ClassId) (dI : Nat → Nat → Nat) (cI cZ : ClassId) (gF : Nat) (sz : Nat) : Met l y_F_init w_F_init ({ frames := 2, cells := 13, slots := 300, locals := 32 } : Room) (PcW dC dI cI cZ [.ref gF] [(gF, .inr (0, [.null, .null, .null, .int 0]))] sz) (QwC dC dI (va_A [(gF, .inr (0, [.null, .null, .null, .int 0]))] sz) (fun u : Nat × Nat × Nat × Nat × Nat × Nat × Nat × Nat × Nat × Nat × Nat × Nat × Nat => [(gF, .inr (0, [.ref u.1, .ref u.2.2.2.2.2.1, .ref u.2.2.2.2.2.2.2.1, .int 0])), (u.1, .inr (1, [.ref u.2.1, .ref u.2.2.1, .ref u.2.2.2.1, .ref u.2.2.2.2.1, .int 0])), (u.2.1, .inl (cI, 20, .inl (fun _ => 0))), (u.2.2.1, .inl (cI, 20, .inl (fun _ => 0))), (u.2.2.2.1, .inl (cZ, 20, .inl (fun _ => 0))), (u.2.2.2.2.1, .inl (cI, 20, .inl (fun _ => 0))), (u.2.2.2.2.2.1, .inr (2, [.ref u.2.2.2.2.2.2.1, .int 0, .int 1])), (u.2.2.2.2.2.2.1, .inl (cI, 40, .inl (fun _ => 0))), (u.2.2.2.2.2.2.2.1, .inr (3, [.ref u.2.2.2.2.2.2.2.2.1, .ref u.2.2.2.2.2.2.2.2.2.1, .int 0, .ref u.2.2.2.2.2.2.2.2.2.2.1, .ref u.2.2.2.2.2.2.2.2.2.2.2.1, .int 0, .ref u.2.2.2.2.2.2.2.2.2.2.2.2, .int 0])), (u.2.2.2.2.2.2.2.2.1, .inl (cI, 35, .inl (fun _ => 0))), (u.2.2.2.2.2.2.2.2.2.1, .inl (cI, 35, .inl (fun _ => 0))), (u.2.2.2.2.2.2.2.2.2.2.1, .inl (cI, 20, .inl (fun _ => 0))), (u.2.2.2.2.2.2.2.2.2.2.2.1, .inl (cI, 54, .inl (fun _ => 0))), (u.2.2.2.2.2.2.2.2.2.2.2.2, .inl (cI, 20, .inl (fun _ => 0)))])) 13 300 (va_A [(gF, .inr (0, [.null, .null, .null, .int 0]))] sz) := by
  refine Met.ofW (cc := b_F_init) (maxL := 1) (ret := none) (by decide) rfl ?_
  intro p e s m args below meth c s₁ B hml hv
  obtain ⟨rfl, hsz, hP, hK, hD0⟩ := hv
  have hx := B.exec
  have hb := B.bytes
  have hr := B.returns
  have hts : ∀ w ∈ BIG, w.before _ s = true := fun w hw => atoms_spec (ws := w_F_init) B.pre w (List.mem_cons_of_mem _ hw)
  have hown : s.vm.findClass R_F = some m.cls := findClass_of_methodNamed B.named
  have hlocks := B.notSynchronized
  have hin : meth.name = "<init>" := (name_of_methodNamed B.named B.method).1
  subst hsz
  have hD := hD0.self (sz := s.heap.size)
  generalize hAe : va_A [(gF, .inr (0, [.null, .null, .null, .int 0]))] s.heap.size = A at hD ⊢
  have hA : ∀ q : Nat, s.heap.size ≤ q → A q := fun q h => by rw [← hAe]; exact Or.inr h
  have hS : va_S A s.heap s.heap [] := va_S.rf
  have hl := lv_entry ([.ref gF]) (n := 1) (Nat.le_of_ble_eq_true rfl)
  rw [lg_entry_eq]
  generalize (lg_sl ([.ref gF]) ++ List.replicate (1 - (lg_sl ([.ref gF])).length) Slot.unset).toArray = ls at hl ⊢
  have hl : lv_has ls 1 [(0, .ref gF)] := hl
  refine lv_aload_n hx hb d_F_init_0 rfl (lv_at hl 0 rfl) ?_
  refine W.objInit hx hb hown (hts _ bw_12) (hts _ bw_13) (hts _ bw_14) rfl (by rw [hml]; exact hl.1) rfl d_F_init_1 (Nat.le_of_ble_eq_true rfl) (Nat.le_of_ble_eq_true rfl) ?_
  refine W.eq (g2 := F0 m 4 ls []) rfl ?_
  refine lv_aload_n hx hb d_F_init_4 rfl (lv_at hl 0 rfl) ?_
  refine va_new (ci := 1) (fs := [.null, .null, .null, .null, .int 0]) (C := R_P) (T := T_P) (N := 5) hx hb hts in_P ty_P tok_P hown (hts _ bw_15) (hts _ bw_16) (hts _ bw_2) hK.1 hP hD hS hA rfl (fun j hj => by rcases (show j = 0 ∨ j = 1 ∨ j = 2 ∨ j = 3 ∨ j = 4 by omega) with rfl | rfl | rfl | rfl | rfl <;> rfl) (Nat.le_of_ble_eq_true rfl) (Nat.le_of_ble_eq_true rfl) d_F_init_5 (fun gP H hP hD hS => ?_)
  have hP : va_P (dC, dI) vwCl [(gF, .inr (0, [.null, .null, .null, .int 0])), (gP, .inr (1, [.null, .null, .null, .null, .int 0]))] H := hP
  have hD : va_D A [(gF, .inr (0, [.null, .null, .null, .int 0])), (gP, .inr (1, [.null, .null, .null, .null, .int 0]))] := hD
  refine lv_dup hx hb d_F_init_8 rfl ?_
  refine wc_c (wf := (fun u : Nat × Nat × Nat × Nat => [(gP, .inr (1, [.ref u.1, .ref u.2.1, .ref u.2.2.1, .ref u.2.2.2, .int 0])), (u.1, .inl (cI, 20, .inl (fun _ => 0))), (u.2.1, .inl (cI, 20, .inl (fun _ => 0))), (u.2.2.1, .inl (cZ, 20, .inl (fun _ => 0))), (u.2.2.2, .inl (cI, 20, .inl (fun _ => 0)))])) (wr := [(gF, .inr (0, [.null, .null, .null, .int 0]))]) (va_runIN (As := []) (rest := [.ref gP, .ref gF]) ⟨hx, hb, hml, hown, hts⟩ (c_P_init l dC dI cI cZ gP H.size) ⟨va_cnB 0 hts (gd_N bw_19) rfl rfl rfl (hK.2 _ (List.mem_of_getElem? (i := 0) rfl)) (hts _ bw_2) hd_P_init ⟨(Nat.le_of_ble_eq_true rfl), (Nat.le_of_ble_eq_true rfl)⟩, rfl, hts _ bw_18⟩ (ps_w (wc := [(gP, .inr (1, [.null, .null, .null, .null, .int 0]))]) hK hP hD [1] rfl rfl (by decide)) rfl rfl hl.1 rfl (lv_room (Nat.le_of_ble_eq_true rfl)) d_F_init_9 ⟨(Nat.le_of_ble_eq_true rfl), (Nat.le_of_ble_eq_true rfl)⟩) hP hD hS hA [1] [0] rfl rfl (by decide) (by decide) (fun u H locs hP hD hS => ?_)
  obtain ⟨aXs, aYs, aTk, aOr⟩ := u
  have hP : va_P (dC, dI) vwCl [(gF, .inr (0, [.null, .null, .null, .int 0])), (gP, .inr (1, [.ref aXs, .ref aYs, .ref aTk, .ref aOr, .int 0])), (aXs, .inl (cI, 20, .inl (fun _ => 0))), (aYs, .inl (cI, 20, .inl (fun _ => 0))), (aTk, .inl (cZ, 20, .inl (fun _ => 0))), (aOr, .inl (cI, 20, .inl (fun _ => 0)))] H := hP
  have hD : va_D A [(gF, .inr (0, [.null, .null, .null, .int 0])), (gP, .inr (1, [.ref aXs, .ref aYs, .ref aTk, .ref aOr, .int 0])), (aXs, .inl (cI, 20, .inl (fun _ => 0))), (aYs, .inl (cI, 20, .inl (fun _ => 0))), (aTk, .inl (cZ, 20, .inl (fun _ => 0))), (aOr, .inl (cI, 20, .inl (fun _ => 0)))] := hD
  refine va_putF (D := (dC, dI)) (ci := 0) (v := .ref gP) (ty := .object "FannedSites$Points") (C := R_F) (T := T_F) (N := 4) hx hb hts in_F ty_F tok_F nok_F hown hK.1 hP hD hS 0 rfl rfl 0 (by decide) (hts _ bw_86) (fun _ h9 => h9) rfl hin rfl (by decide +kernel) rfl rfl (Nat.le_of_ble_eq_true rfl) d_F_init_12 (fun H locs hP hD hS => ?_)
  have hP : va_P (dC, dI) vwCl [(gF, .inr (0, [.ref gP, .null, .null, .int 0])), (gP, .inr (1, [.ref aXs, .ref aYs, .ref aTk, .ref aOr, .int 0])), (aXs, .inl (cI, 20, .inl (fun _ => 0))), (aYs, .inl (cI, 20, .inl (fun _ => 0))), (aTk, .inl (cZ, 20, .inl (fun _ => 0))), (aOr, .inl (cI, 20, .inl (fun _ => 0)))] H := hP
  have hD : va_D A [(gF, .inr (0, [.ref gP, .null, .null, .int 0])), (gP, .inr (1, [.ref aXs, .ref aYs, .ref aTk, .ref aOr, .int 0])), (aXs, .inl (cI, 20, .inl (fun _ => 0))), (aYs, .inl (cI, 20, .inl (fun _ => 0))), (aTk, .inl (cZ, 20, .inl (fun _ => 0))), (aOr, .inl (cI, 20, .inl (fun _ => 0)))] := hD
  refine lv_aload_n hx hb d_F_init_15 rfl (lv_at hl 0 rfl) ?_
  refine va_new (ci := 2) (fs := [.null, .int 0, .int 0]) (C := R_O) (T := T_O) (N := 3) hx hb hts in_O ty_O tok_O hown (hts _ bw_39) (hts _ bw_40) (hts _ bw_3) hK.1 hP hD hS hA rfl (fun j hj => by rcases (show j = 0 ∨ j = 1 ∨ j = 2 by omega) with rfl | rfl | rfl <;> rfl) (Nat.le_of_ble_eq_true rfl) (Nat.le_of_ble_eq_true rfl) d_F_init_16 (fun gO H hP hD hS => ?_)
  have hP : va_P (dC, dI) vwCl [(gF, .inr (0, [.ref gP, .null, .null, .int 0])), (gP, .inr (1, [.ref aXs, .ref aYs, .ref aTk, .ref aOr, .int 0])), (aXs, .inl (cI, 20, .inl (fun _ => 0))), (aYs, .inl (cI, 20, .inl (fun _ => 0))), (aTk, .inl (cZ, 20, .inl (fun _ => 0))), (aOr, .inl (cI, 20, .inl (fun _ => 0))), (gO, .inr (2, [.null, .int 0, .int 0]))] H := hP
  have hD : va_D A [(gF, .inr (0, [.ref gP, .null, .null, .int 0])), (gP, .inr (1, [.ref aXs, .ref aYs, .ref aTk, .ref aOr, .int 0])), (aXs, .inl (cI, 20, .inl (fun _ => 0))), (aYs, .inl (cI, 20, .inl (fun _ => 0))), (aTk, .inl (cZ, 20, .inl (fun _ => 0))), (aOr, .inl (cI, 20, .inl (fun _ => 0))), (gO, .inr (2, [.null, .int 0, .int 0]))] := hD
  refine lv_dup hx hb d_F_init_19 rfl ?_
  refine wc_c (wf := (fun u : Nat => [(gO, .inr (2, [.ref u, .int 0, .int 1])), (u, .inl (cI, 40, .inl (fun _ => 0)))])) (wr := [(gF, .inr (0, [.ref gP, .null, .null, .int 0])), (gP, .inr (1, [.ref aXs, .ref aYs, .ref aTk, .ref aOr, .int 0])), (aXs, .inl (cI, 20, .inl (fun _ => 0))), (aYs, .inl (cI, 20, .inl (fun _ => 0))), (aTk, .inl (cZ, 20, .inl (fun _ => 0))), (aOr, .inl (cI, 20, .inl (fun _ => 0)))]) (va_runIN (As := []) (rest := [.ref gO, .ref gF]) ⟨hx, hb, hml, hown, hts⟩ (c_O_init l dC dI cI cZ gO H.size) ⟨va_cnB 0 hts (gd_N bw_43) rfl rfl rfl (hK.2 _ (List.mem_of_getElem? (i := 1) rfl)) (hts _ bw_3) hd_O_init ⟨(Nat.le_of_ble_eq_true rfl), (Nat.le_of_ble_eq_true rfl)⟩, rfl, hts _ bw_42⟩ (ps_w (wc := [(gO, .inr (2, [.null, .int 0, .int 0]))]) hK hP hD [6] rfl rfl (by decide)) rfl rfl hl.1 rfl (lv_room (Nat.le_of_ble_eq_true rfl)) d_F_init_20 ⟨(Nat.le_of_ble_eq_true rfl), (Nat.le_of_ble_eq_true rfl)⟩) hP hD hS hA [6] [0, 1, 2, 3, 4, 5] rfl rfl (by decide) (by decide) (fun u H locs hP hD hS => ?_)
  obtain ⟨aRow, rfl⟩ : ∃ z, z = u := ⟨_, rfl⟩
  have hP : va_P (dC, dI) vwCl [(gF, .inr (0, [.ref gP, .null, .null, .int 0])), (gP, .inr (1, [.ref aXs, .ref aYs, .ref aTk, .ref aOr, .int 0])), (aXs, .inl (cI, 20, .inl (fun _ => 0))), (aYs, .inl (cI, 20, .inl (fun _ => 0))), (aTk, .inl (cZ, 20, .inl (fun _ => 0))), (aOr, .inl (cI, 20, .inl (fun _ => 0))), (gO, .inr (2, [.ref aRow, .int 0, .int 1])), (aRow, .inl (cI, 40, .inl (fun _ => 0)))] H := hP
  have hD : va_D A [(gF, .inr (0, [.ref gP, .null, .null, .int 0])), (gP, .inr (1, [.ref aXs, .ref aYs, .ref aTk, .ref aOr, .int 0])), (aXs, .inl (cI, 20, .inl (fun _ => 0))), (aYs, .inl (cI, 20, .inl (fun _ => 0))), (aTk, .inl (cZ, 20, .inl (fun _ => 0))), (aOr, .inl (cI, 20, .inl (fun _ => 0))), (gO, .inr (2, [.ref aRow, .int 0, .int 1])), (aRow, .inl (cI, 40, .inl (fun _ => 0)))] := hD
  refine va_putF (D := (dC, dI)) (ci := 0) (v := .ref gO) (ty := .object "FannedSites$Outline") (C := R_F) (T := T_F) (N := 4) hx hb hts in_F ty_F tok_F nok_F hown hK.1 hP hD hS 0 rfl rfl 1 (by decide) (hts _ bw_87) (fun _ h9 => h9) rfl hin rfl (by decide +kernel) rfl rfl (Nat.le_of_ble_eq_true rfl) d_F_init_23 (fun H locs hP hD hS => ?_)
  have hP : va_P (dC, dI) vwCl [(gF, .inr (0, [.ref gP, .ref gO, .null, .int 0])), (gP, .inr (1, [.ref aXs, .ref aYs, .ref aTk, .ref aOr, .int 0])), (aXs, .inl (cI, 20, .inl (fun _ => 0))), (aYs, .inl (cI, 20, .inl (fun _ => 0))), (aTk, .inl (cZ, 20, .inl (fun _ => 0))), (aOr, .inl (cI, 20, .inl (fun _ => 0))), (gO, .inr (2, [.ref aRow, .int 0, .int 1])), (aRow, .inl (cI, 40, .inl (fun _ => 0)))] H := hP
  have hD : va_D A [(gF, .inr (0, [.ref gP, .ref gO, .null, .int 0])), (gP, .inr (1, [.ref aXs, .ref aYs, .ref aTk, .ref aOr, .int 0])), (aXs, .inl (cI, 20, .inl (fun _ => 0))), (aYs, .inl (cI, 20, .inl (fun _ => 0))), (aTk, .inl (cZ, 20, .inl (fun _ => 0))), (aOr, .inl (cI, 20, .inl (fun _ => 0))), (gO, .inr (2, [.ref aRow, .int 0, .int 1])), (aRow, .inl (cI, 40, .inl (fun _ => 0)))] := hD
  refine lv_aload_n hx hb d_F_init_26 rfl (lv_at hl 0 rfl) ?_
  refine va_new (ci := 3) (fs := [.null, .null, .int 0, .null, .null, .int 0, .null, .int 0]) (C := R_M) (T := T_M) (N := 8) hx hb hts in_M ty_M tok_M hown (hts _ bw_55) (hts _ bw_56) (hts _ bw_4) hK.1 hP hD hS hA rfl (fun j hj => by rcases (show j = 0 ∨ j = 1 ∨ j = 2 ∨ j = 3 ∨ j = 4 ∨ j = 5 ∨ j = 6 ∨ j = 7 by omega) with rfl | rfl | rfl | rfl | rfl | rfl | rfl | rfl <;> rfl) (Nat.le_of_ble_eq_true rfl) (Nat.le_of_ble_eq_true rfl) d_F_init_27 (fun gM H hP hD hS => ?_)
  have hP : va_P (dC, dI) vwCl [(gF, .inr (0, [.ref gP, .ref gO, .null, .int 0])), (gP, .inr (1, [.ref aXs, .ref aYs, .ref aTk, .ref aOr, .int 0])), (aXs, .inl (cI, 20, .inl (fun _ => 0))), (aYs, .inl (cI, 20, .inl (fun _ => 0))), (aTk, .inl (cZ, 20, .inl (fun _ => 0))), (aOr, .inl (cI, 20, .inl (fun _ => 0))), (gO, .inr (2, [.ref aRow, .int 0, .int 1])), (aRow, .inl (cI, 40, .inl (fun _ => 0))), (gM, .inr (3, [.null, .null, .int 0, .null, .null, .int 0, .null, .int 0]))] H := hP
  have hD : va_D A [(gF, .inr (0, [.ref gP, .ref gO, .null, .int 0])), (gP, .inr (1, [.ref aXs, .ref aYs, .ref aTk, .ref aOr, .int 0])), (aXs, .inl (cI, 20, .inl (fun _ => 0))), (aYs, .inl (cI, 20, .inl (fun _ => 0))), (aTk, .inl (cZ, 20, .inl (fun _ => 0))), (aOr, .inl (cI, 20, .inl (fun _ => 0))), (gO, .inr (2, [.ref aRow, .int 0, .int 1])), (aRow, .inl (cI, 40, .inl (fun _ => 0))), (gM, .inr (3, [.null, .null, .int 0, .null, .null, .int 0, .null, .int 0]))] := hD
  refine lv_dup hx hb d_F_init_30 rfl ?_
  refine wc_c (wf := (fun u : Nat × Nat × Nat × Nat × Nat => [(gM, .inr (3, [.ref u.1, .ref u.2.1, .int 0, .ref u.2.2.1, .ref u.2.2.2.1, .int 0, .ref u.2.2.2.2, .int 0])), (u.1, .inl (cI, 35, .inl (fun _ => 0))), (u.2.1, .inl (cI, 35, .inl (fun _ => 0))), (u.2.2.1, .inl (cI, 20, .inl (fun _ => 0))), (u.2.2.2.1, .inl (cI, 54, .inl (fun _ => 0))), (u.2.2.2.2, .inl (cI, 20, .inl (fun _ => 0)))])) (wr := [(gF, .inr (0, [.ref gP, .ref gO, .null, .int 0])), (gP, .inr (1, [.ref aXs, .ref aYs, .ref aTk, .ref aOr, .int 0])), (aXs, .inl (cI, 20, .inl (fun _ => 0))), (aYs, .inl (cI, 20, .inl (fun _ => 0))), (aTk, .inl (cZ, 20, .inl (fun _ => 0))), (aOr, .inl (cI, 20, .inl (fun _ => 0))), (gO, .inr (2, [.ref aRow, .int 0, .int 1])), (aRow, .inl (cI, 40, .inl (fun _ => 0)))]) (va_runIN (As := []) (rest := [.ref gM, .ref gF]) ⟨hx, hb, hml, hown, hts⟩ (c_M_init l dC dI cI cZ gM H.size) ⟨va_cnB 0 hts (gd_N bw_59) rfl rfl rfl (hK.2 _ (List.mem_of_getElem? (i := 2) rfl)) (hts _ bw_4) hd_M_init ⟨(Nat.le_of_ble_eq_true rfl), (Nat.le_of_ble_eq_true rfl)⟩, rfl, hts _ bw_58⟩ (ps_w (wc := [(gM, .inr (3, [.null, .null, .int 0, .null, .null, .int 0, .null, .int 0]))]) hK hP hD [8] rfl rfl (by decide)) rfl rfl hl.1 rfl (lv_room (Nat.le_of_ble_eq_true rfl)) d_F_init_31 ⟨(Nat.le_of_ble_eq_true rfl), (Nat.le_of_ble_eq_true rfl)⟩) hP hD hS hA [8] [0, 1, 2, 3, 4, 5, 6, 7] rfl rfl (by decide) (by decide) (fun u H locs hP hD hS => ?_)
  obtain ⟨aKe, aFs, aLi, aWa, aRi⟩ := u
  have hP : va_P (dC, dI) vwCl [(gF, .inr (0, [.ref gP, .ref gO, .null, .int 0])), (gP, .inr (1, [.ref aXs, .ref aYs, .ref aTk, .ref aOr, .int 0])), (aXs, .inl (cI, 20, .inl (fun _ => 0))), (aYs, .inl (cI, 20, .inl (fun _ => 0))), (aTk, .inl (cZ, 20, .inl (fun _ => 0))), (aOr, .inl (cI, 20, .inl (fun _ => 0))), (gO, .inr (2, [.ref aRow, .int 0, .int 1])), (aRow, .inl (cI, 40, .inl (fun _ => 0))), (gM, .inr (3, [.ref aKe, .ref aFs, .int 0, .ref aLi, .ref aWa, .int 0, .ref aRi, .int 0])), (aKe, .inl (cI, 35, .inl (fun _ => 0))), (aFs, .inl (cI, 35, .inl (fun _ => 0))), (aLi, .inl (cI, 20, .inl (fun _ => 0))), (aWa, .inl (cI, 54, .inl (fun _ => 0))), (aRi, .inl (cI, 20, .inl (fun _ => 0)))] H := hP
  have hD : va_D A [(gF, .inr (0, [.ref gP, .ref gO, .null, .int 0])), (gP, .inr (1, [.ref aXs, .ref aYs, .ref aTk, .ref aOr, .int 0])), (aXs, .inl (cI, 20, .inl (fun _ => 0))), (aYs, .inl (cI, 20, .inl (fun _ => 0))), (aTk, .inl (cZ, 20, .inl (fun _ => 0))), (aOr, .inl (cI, 20, .inl (fun _ => 0))), (gO, .inr (2, [.ref aRow, .int 0, .int 1])), (aRow, .inl (cI, 40, .inl (fun _ => 0))), (gM, .inr (3, [.ref aKe, .ref aFs, .int 0, .ref aLi, .ref aWa, .int 0, .ref aRi, .int 0])), (aKe, .inl (cI, 35, .inl (fun _ => 0))), (aFs, .inl (cI, 35, .inl (fun _ => 0))), (aLi, .inl (cI, 20, .inl (fun _ => 0))), (aWa, .inl (cI, 54, .inl (fun _ => 0))), (aRi, .inl (cI, 20, .inl (fun _ => 0)))] := hD
  refine va_putF (D := (dC, dI)) (ci := 0) (v := .ref gM) (ty := .object "FannedSites$Mesh") (C := R_F) (T := T_F) (N := 4) hx hb hts in_F ty_F tok_F nok_F hown hK.1 hP hD hS 0 rfl rfl 2 (by decide) (hts _ bw_88) (fun _ h9 => h9) rfl hin rfl (by decide +kernel) rfl rfl (Nat.le_of_ble_eq_true rfl) d_F_init_34 (fun H locs hP hD hS => ?_)
  have hP : va_P (dC, dI) vwCl [(gF, .inr (0, [.ref gP, .ref gO, .ref gM, .int 0])), (gP, .inr (1, [.ref aXs, .ref aYs, .ref aTk, .ref aOr, .int 0])), (aXs, .inl (cI, 20, .inl (fun _ => 0))), (aYs, .inl (cI, 20, .inl (fun _ => 0))), (aTk, .inl (cZ, 20, .inl (fun _ => 0))), (aOr, .inl (cI, 20, .inl (fun _ => 0))), (gO, .inr (2, [.ref aRow, .int 0, .int 1])), (aRow, .inl (cI, 40, .inl (fun _ => 0))), (gM, .inr (3, [.ref aKe, .ref aFs, .int 0, .ref aLi, .ref aWa, .int 0, .ref aRi, .int 0])), (aKe, .inl (cI, 35, .inl (fun _ => 0))), (aFs, .inl (cI, 35, .inl (fun _ => 0))), (aLi, .inl (cI, 20, .inl (fun _ => 0))), (aWa, .inl (cI, 54, .inl (fun _ => 0))), (aRi, .inl (cI, 20, .inl (fun _ => 0)))] H := hP
  have hD : va_D A [(gF, .inr (0, [.ref gP, .ref gO, .ref gM, .int 0])), (gP, .inr (1, [.ref aXs, .ref aYs, .ref aTk, .ref aOr, .int 0])), (aXs, .inl (cI, 20, .inl (fun _ => 0))), (aYs, .inl (cI, 20, .inl (fun _ => 0))), (aTk, .inl (cZ, 20, .inl (fun _ => 0))), (aOr, .inl (cI, 20, .inl (fun _ => 0))), (gO, .inr (2, [.ref aRow, .int 0, .int 1])), (aRow, .inl (cI, 40, .inl (fun _ => 0))), (gM, .inr (3, [.ref aKe, .ref aFs, .int 0, .ref aLi, .ref aWa, .int 0, .ref aRi, .int 0])), (aKe, .inl (cI, 35, .inl (fun _ => 0))), (aFs, .inl (cI, 35, .inl (fun _ => 0))), (aLi, .inl (cI, 20, .inl (fun _ => 0))), (aWa, .inl (cI, 54, .inl (fun _ => 0))), (aRi, .inl (cI, 20, .inl (fun _ => 0)))] := hD
  refine lv_aload_n hx hb d_F_init_37 rfl (lv_at hl 0 rfl) ?_
  refine lv_iconst (v := (0 : Int32)) hx hb d_F_init_38 rfl ?_
  refine va_put (D := (dC, dI)) (ci := 0) (v := .int 0) (ty := .boolean) (C := R_F) (T := T_F) (N := 4) hx hb hts in_F ty_F tok_F nok_F hown hK.1 hP hD hS 0 rfl rfl 3 (by decide) (hts _ bw_89) (fun _ h9 => h9) rfl (by decide +kernel) rfl rfl (Nat.le_of_ble_eq_true rfl) d_F_init_39 (fun H locs hP hD hS => ?_)
  have hP : va_P (dC, dI) vwCl [(gF, .inr (0, [.ref gP, .ref gO, .ref gM, .int 0])), (gP, .inr (1, [.ref aXs, .ref aYs, .ref aTk, .ref aOr, .int 0])), (aXs, .inl (cI, 20, .inl (fun _ => 0))), (aYs, .inl (cI, 20, .inl (fun _ => 0))), (aTk, .inl (cZ, 20, .inl (fun _ => 0))), (aOr, .inl (cI, 20, .inl (fun _ => 0))), (gO, .inr (2, [.ref aRow, .int 0, .int 1])), (aRow, .inl (cI, 40, .inl (fun _ => 0))), (gM, .inr (3, [.ref aKe, .ref aFs, .int 0, .ref aLi, .ref aWa, .int 0, .ref aRi, .int 0])), (aKe, .inl (cI, 35, .inl (fun _ => 0))), (aFs, .inl (cI, 35, .inl (fun _ => 0))), (aLi, .inl (cI, 20, .inl (fun _ => 0))), (aWa, .inl (cI, 54, .inl (fun _ => 0))), (aRi, .inl (cI, 20, .inl (fun _ => 0)))] H := hP
  have hD : va_D A [(gF, .inr (0, [.ref gP, .ref gO, .ref gM, .int 0])), (gP, .inr (1, [.ref aXs, .ref aYs, .ref aTk, .ref aOr, .int 0])), (aXs, .inl (cI, 20, .inl (fun _ => 0))), (aYs, .inl (cI, 20, .inl (fun _ => 0))), (aTk, .inl (cZ, 20, .inl (fun _ => 0))), (aOr, .inl (cI, 20, .inl (fun _ => 0))), (gO, .inr (2, [.ref aRow, .int 0, .int 1])), (aRow, .inl (cI, 40, .inl (fun _ => 0))), (gM, .inr (3, [.ref aKe, .ref aFs, .int 0, .ref aLi, .ref aWa, .int 0, .ref aRi, .int 0])), (aKe, .inl (cI, 35, .inl (fun _ => 0))), (aFs, .inl (cI, 35, .inl (fun _ => 0))), (aLi, .inl (cI, 20, .inl (fun _ => 0))), (aWa, .inl (cI, 54, .inl (fun _ => 0))), (aRi, .inl (cI, 20, .inl (fun _ => 0)))] := hD
  refine W.widen (k := 13) (n := 300) (Nat.le_of_ble_eq_true rfl) (Nat.le_of_ble_eq_true rfl) ?_
  have hP9 := hP.sub (ws' := [(gF, .inr (0, [.ref gP, .ref gO, .ref gM, .int 0])), (gP, .inr (1, [.ref aXs, .ref aYs, .ref aTk, .ref aOr, .int 0])), (aXs, .inl (cI, 20, .inl (fun _ => 0))), (aYs, .inl (cI, 20, .inl (fun _ => 0))), (aTk, .inl (cZ, 20, .inl (fun _ => 0))), (aOr, .inl (cI, 20, .inl (fun _ => 0))), (gO, .inr (2, [.ref aRow, .int 0, .int 1])), (aRow, .inl (cI, 40, .inl (fun _ => 0))), (gM, .inr (3, [.ref aKe, .ref aFs, .int 0, .ref aLi, .ref aWa, .int 0, .ref aRi, .int 0])), (aKe, .inl (cI, 35, .inl (fun _ => 0))), (aFs, .inl (cI, 35, .inl (fun _ => 0))), (aLi, .inl (cI, 20, .inl (fun _ => 0))), (aWa, .inl (cI, 54, .inl (fun _ => 0))), (aRi, .inl (cI, 20, .inl (fun _ => 0)))]) [0, 1, 2, 3, 4, 5, 6, 7, 8, 9, 10, 11, 12, 13] rfl
  have hD9 := hD.sub (ws' := [(gF, .inr (0, [.ref gP, .ref gO, .ref gM, .int 0])), (gP, .inr (1, [.ref aXs, .ref aYs, .ref aTk, .ref aOr, .int 0])), (aXs, .inl (cI, 20, .inl (fun _ => 0))), (aYs, .inl (cI, 20, .inl (fun _ => 0))), (aTk, .inl (cZ, 20, .inl (fun _ => 0))), (aOr, .inl (cI, 20, .inl (fun _ => 0))), (gO, .inr (2, [.ref aRow, .int 0, .int 1])), (aRow, .inl (cI, 40, .inl (fun _ => 0))), (gM, .inr (3, [.ref aKe, .ref aFs, .int 0, .ref aLi, .ref aWa, .int 0, .ref aRi, .int 0])), (aKe, .inl (cI, 35, .inl (fun _ => 0))), (aFs, .inl (cI, 35, .inl (fun _ => 0))), (aLi, .inl (cI, 20, .inl (fun _ => 0))), (aWa, .inl (cI, 54, .inl (fun _ => 0))), (aRi, .inl (cI, 20, .inl (fun _ => 0)))]) [0, 1, 2, 3, 4, 5, 6, 7, 8, 9, 10, 11, 12, 13] (by decide) rfl
  exact W.vret hx hb hr (fun t ht _ => ⟨⟨(gP, aXs, aYs, aTk, aOr, gO, aRow, gM, aKe, aFs, aLi, aWa, aRi), rfl, trivial, by rw [ht]; exact hP9, hD9⟩, hS.F ht⟩) hS.2.2 d_F_init_42
set_option maxHeartbeats 4000000 in
set_option maxRecDepth 100000 in
theorem c_N_init (l : Launch) (dC : Nat → ClassId) (dI : Nat → Nat → Nat) (cI cZ : ClassId) (gN : Nat) (sz : Nat) : Met l y_N_init w_N_init ({ frames := 1, cells := 7, slots := 200, locals := 12 } : Room) (PcW dC dI cI cZ [.ref gN] [(gN, .inr (4, [.null, .null, .null, .int 0, .int 0, .null, .null, .null, .int 0, .null]))] sz) (QwC dC dI (va_A [(gN, .inr (4, [.null, .null, .null, .int 0, .int 0, .null, .null, .null, .int 0, .null]))] sz) (fun u : Nat × Nat × Nat × Nat × Nat × Nat × Nat => [(gN, .inr (4, [.ref u.1, .ref u.2.1, .ref u.2.2.1, .int 0, .int 0, .ref u.2.2.2.1, .ref u.2.2.2.2.1, .ref u.2.2.2.2.2.1, .int 0, .ref u.2.2.2.2.2.2])), (u.1, .inl (cZ, 20, .inl (fun _ => 0))), (u.2.1, .inl (cI, 20, .inl (fun _ => 0))), (u.2.2.1, .inl (cI, 20, .inl (fun _ => 0))), (u.2.2.2.1, .inl (cI, 40, .inl (fun _ => 0))), (u.2.2.2.2.1, .inl (cI, 40, .inl (fun _ => 0))), (u.2.2.2.2.2.1, .inl (cI, 40, .inl (fun _ => 0))), (u.2.2.2.2.2.2, .inl (cI, 20, .inl (fun _ => 0)))])) 7 200 (va_A [(gN, .inr (4, [.null, .null, .null, .int 0, .int 0, .null, .null, .null, .int 0, .null]))] sz) := by
  refine Met.ofW (cc := b_N_init) (maxL := 1) (ret := none) (by decide) rfl ?_
  intro p e s m args below meth c s₁ B hml hv
  obtain ⟨rfl, hsz, hP, hK, hD0⟩ := hv
  have hx := B.exec
  have hb := B.bytes
  have hr := B.returns
  have hts : ∀ w ∈ BIG, w.before _ s = true := fun w hw => atoms_spec (ws := w_N_init) B.pre w (List.mem_cons_of_mem _ hw)
  have hown : s.vm.findClass R_N = some m.cls := findClass_of_methodNamed B.named
  have hlocks := B.notSynchronized
  have hin : meth.name = "<init>" := (name_of_methodNamed B.named B.method).1
  subst hsz
  have hD := hD0.self (sz := s.heap.size)
  generalize hAe : va_A [(gN, .inr (4, [.null, .null, .null, .int 0, .int 0, .null, .null, .null, .int 0, .null]))] s.heap.size = A at hD ⊢
  have hA : ∀ q : Nat, s.heap.size ≤ q → A q := fun q h => by rw [← hAe]; exact Or.inr h
  have hS : va_S A s.heap s.heap [] := va_S.rf
  have hl := lv_entry ([.ref gN]) (n := 1) (Nat.le_of_ble_eq_true rfl)
  rw [lg_entry_eq]
  generalize (lg_sl ([.ref gN]) ++ List.replicate (1 - (lg_sl ([.ref gN])).length) Slot.unset).toArray = ls at hl ⊢
  have hl : lv_has ls 1 [(0, .ref gN)] := hl
  refine lv_aload_n hx hb d_N_init_0 rfl (lv_at hl 0 rfl) ?_
  refine W.objInit hx hb hown (hts _ bw_356) (hts _ bw_13) (hts _ bw_14) rfl (by rw [hml]; exact hl.1) rfl d_N_init_1 (Nat.le_of_ble_eq_true rfl) (Nat.le_of_ble_eq_true rfl) ?_
  refine W.eq (g2 := F0 m 4 ls []) rfl ?_
  refine lv_aload_n hx hb d_N_init_4 rfl (lv_at hl 0 rfl) ?_
  refine lv_bipush (v := (20 : Int32)) hx hb d_N_init_5 rfl ?_
  refine va_newa (atype := .boolean) (ty := .boolean) (a0 := (20, .inl (fun _ => 0))) (N' := 20) hx hb (hts _ bw_38) rfl hK.1 hP hD hS hA (fun _ => rfl) (by decide) rfl (by decide) (Nat.le_of_ble_eq_true rfl) (Nat.le_of_ble_eq_true rfl) d_N_init_7 (fun bTh cA H hK2 hP hD hS => ?_)
  have eA := cA_boolean hK2
  rw [eA] at hP hD
  clear eA hK2
  have hP : va_P (dC, dI) vwCl [(gN, .inr (4, [.null, .null, .null, .int 0, .int 0, .null, .null, .null, .int 0, .null])), (bTh, .inl (cZ, 20, .inl (fun _ => 0)))] H := hP
  have hD : va_D A [(gN, .inr (4, [.null, .null, .null, .int 0, .int 0, .null, .null, .null, .int 0, .null])), (bTh, .inl (cZ, 20, .inl (fun _ => 0)))] := hD
  refine va_putF (D := (dC, dI)) (ci := 4) (v := .ref bTh) (ty := .array .boolean) (C := R_N) (T := T_N) (N := 10) hx hb hts in_N ty_N tok_N nok_N hown hK.1 hP hD hS 0 rfl rfl 0 (by decide) (hts _ bw_357) (fun _ h9 => h9) rfl hin rfl (by decide +kernel) rfl rfl (Nat.le_of_ble_eq_true rfl) d_N_init_9 (fun H locs hP hD hS => ?_)
  have hP : va_P (dC, dI) vwCl [(gN, .inr (4, [.ref bTh, .null, .null, .int 0, .int 0, .null, .null, .null, .int 0, .null])), (bTh, .inl (cZ, 20, .inl (fun _ => 0)))] H := hP
  have hD : va_D A [(gN, .inr (4, [.ref bTh, .null, .null, .int 0, .int 0, .null, .null, .null, .int 0, .null])), (bTh, .inl (cZ, 20, .inl (fun _ => 0)))] := hD
  refine lv_aload_n hx hb d_N_init_12 rfl (lv_at hl 0 rfl) ?_
  refine lv_bipush (v := (20 : Int32)) hx hb d_N_init_13 rfl ?_
  refine va_newa (atype := .int) (ty := .int) (a0 := (20, .inl (fun _ => 0))) (N' := 20) hx hb (hts _ bw_37) rfl hK.1 hP hD hS hA (fun _ => rfl) (by decide) rfl (by decide) (Nat.le_of_ble_eq_true rfl) (Nat.le_of_ble_eq_true rfl) d_N_init_15 (fun bXs cA H hK2 hP hD hS => ?_)
  have eA := cA_int hK2
  rw [eA] at hP hD
  clear eA hK2
  have hP : va_P (dC, dI) vwCl [(gN, .inr (4, [.ref bTh, .null, .null, .int 0, .int 0, .null, .null, .null, .int 0, .null])), (bTh, .inl (cZ, 20, .inl (fun _ => 0))), (bXs, .inl (cI, 20, .inl (fun _ => 0)))] H := hP
  have hD : va_D A [(gN, .inr (4, [.ref bTh, .null, .null, .int 0, .int 0, .null, .null, .null, .int 0, .null])), (bTh, .inl (cZ, 20, .inl (fun _ => 0))), (bXs, .inl (cI, 20, .inl (fun _ => 0)))] := hD
  refine va_putF (D := (dC, dI)) (ci := 4) (v := .ref bXs) (ty := .array .int) (C := R_N) (T := T_N) (N := 10) hx hb hts in_N ty_N tok_N nok_N hown hK.1 hP hD hS 0 rfl rfl 1 (by decide) (hts _ bw_358) (fun _ h9 => h9) rfl hin rfl (by decide +kernel) rfl rfl (Nat.le_of_ble_eq_true rfl) d_N_init_17 (fun H locs hP hD hS => ?_)
  have hP : va_P (dC, dI) vwCl [(gN, .inr (4, [.ref bTh, .ref bXs, .null, .int 0, .int 0, .null, .null, .null, .int 0, .null])), (bTh, .inl (cZ, 20, .inl (fun _ => 0))), (bXs, .inl (cI, 20, .inl (fun _ => 0)))] H := hP
  have hD : va_D A [(gN, .inr (4, [.ref bTh, .ref bXs, .null, .int 0, .int 0, .null, .null, .null, .int 0, .null])), (bTh, .inl (cZ, 20, .inl (fun _ => 0))), (bXs, .inl (cI, 20, .inl (fun _ => 0)))] := hD
  refine lv_aload_n hx hb d_N_init_20 rfl (lv_at hl 0 rfl) ?_
  refine lv_bipush (v := (20 : Int32)) hx hb d_N_init_21 rfl ?_
  refine va_newa (atype := .int) (ty := .int) (a0 := (20, .inl (fun _ => 0))) (N' := 20) hx hb (hts _ bw_37) rfl hK.1 hP hD hS hA (fun _ => rfl) (by decide) rfl (by decide) (Nat.le_of_ble_eq_true rfl) (Nat.le_of_ble_eq_true rfl) d_N_init_23 (fun bYs cA H hK2 hP hD hS => ?_)
  have eA := cA_int hK2
  rw [eA] at hP hD
  clear eA hK2
  have hP : va_P (dC, dI) vwCl [(gN, .inr (4, [.ref bTh, .ref bXs, .null, .int 0, .int 0, .null, .null, .null, .int 0, .null])), (bTh, .inl (cZ, 20, .inl (fun _ => 0))), (bXs, .inl (cI, 20, .inl (fun _ => 0))), (bYs, .inl (cI, 20, .inl (fun _ => 0)))] H := hP
  have hD : va_D A [(gN, .inr (4, [.ref bTh, .ref bXs, .null, .int 0, .int 0, .null, .null, .null, .int 0, .null])), (bTh, .inl (cZ, 20, .inl (fun _ => 0))), (bXs, .inl (cI, 20, .inl (fun _ => 0))), (bYs, .inl (cI, 20, .inl (fun _ => 0)))] := hD
  refine va_putF (D := (dC, dI)) (ci := 4) (v := .ref bYs) (ty := .array .int) (C := R_N) (T := T_N) (N := 10) hx hb hts in_N ty_N tok_N nok_N hown hK.1 hP hD hS 0 rfl rfl 2 (by decide) (hts _ bw_359) (fun _ h9 => h9) rfl hin rfl (by decide +kernel) rfl rfl (Nat.le_of_ble_eq_true rfl) d_N_init_25 (fun H locs hP hD hS => ?_)
  have hP : va_P (dC, dI) vwCl [(gN, .inr (4, [.ref bTh, .ref bXs, .ref bYs, .int 0, .int 0, .null, .null, .null, .int 0, .null])), (bTh, .inl (cZ, 20, .inl (fun _ => 0))), (bXs, .inl (cI, 20, .inl (fun _ => 0))), (bYs, .inl (cI, 20, .inl (fun _ => 0)))] H := hP
  have hD : va_D A [(gN, .inr (4, [.ref bTh, .ref bXs, .ref bYs, .int 0, .int 0, .null, .null, .null, .int 0, .null])), (bTh, .inl (cZ, 20, .inl (fun _ => 0))), (bXs, .inl (cI, 20, .inl (fun _ => 0))), (bYs, .inl (cI, 20, .inl (fun _ => 0)))] := hD
  refine lv_aload_n hx hb d_N_init_28 rfl (lv_at hl 0 rfl) ?_
  refine lv_bipush (v := (40 : Int32)) hx hb d_N_init_29 rfl ?_
  refine va_newa (atype := .int) (ty := .int) (a0 := (40, .inl (fun _ => 0))) (N' := 40) hx hb (hts _ bw_37) rfl hK.1 hP hD hS hA (fun _ => rfl) (by decide) rfl (by decide) (Nat.le_of_ble_eq_true rfl) (Nat.le_of_ble_eq_true rfl) d_N_init_31 (fun bA cA H hK2 hP hD hS => ?_)
  have eA := cA_int hK2
  rw [eA] at hP hD
  clear eA hK2
  have hP : va_P (dC, dI) vwCl [(gN, .inr (4, [.ref bTh, .ref bXs, .ref bYs, .int 0, .int 0, .null, .null, .null, .int 0, .null])), (bTh, .inl (cZ, 20, .inl (fun _ => 0))), (bXs, .inl (cI, 20, .inl (fun _ => 0))), (bYs, .inl (cI, 20, .inl (fun _ => 0))), (bA, .inl (cI, 40, .inl (fun _ => 0)))] H := hP
  have hD : va_D A [(gN, .inr (4, [.ref bTh, .ref bXs, .ref bYs, .int 0, .int 0, .null, .null, .null, .int 0, .null])), (bTh, .inl (cZ, 20, .inl (fun _ => 0))), (bXs, .inl (cI, 20, .inl (fun _ => 0))), (bYs, .inl (cI, 20, .inl (fun _ => 0))), (bA, .inl (cI, 40, .inl (fun _ => 0)))] := hD
  refine va_putF (D := (dC, dI)) (ci := 4) (v := .ref bA) (ty := .array .int) (C := R_N) (T := T_N) (N := 10) hx hb hts in_N ty_N tok_N nok_N hown hK.1 hP hD hS 0 rfl rfl 5 (by decide) (hts _ bw_362) (fun _ h9 => h9) rfl hin rfl (by decide +kernel) rfl rfl (Nat.le_of_ble_eq_true rfl) d_N_init_33 (fun H locs hP hD hS => ?_)
  have hP : va_P (dC, dI) vwCl [(gN, .inr (4, [.ref bTh, .ref bXs, .ref bYs, .int 0, .int 0, .ref bA, .null, .null, .int 0, .null])), (bTh, .inl (cZ, 20, .inl (fun _ => 0))), (bXs, .inl (cI, 20, .inl (fun _ => 0))), (bYs, .inl (cI, 20, .inl (fun _ => 0))), (bA, .inl (cI, 40, .inl (fun _ => 0)))] H := hP
  have hD : va_D A [(gN, .inr (4, [.ref bTh, .ref bXs, .ref bYs, .int 0, .int 0, .ref bA, .null, .null, .int 0, .null])), (bTh, .inl (cZ, 20, .inl (fun _ => 0))), (bXs, .inl (cI, 20, .inl (fun _ => 0))), (bYs, .inl (cI, 20, .inl (fun _ => 0))), (bA, .inl (cI, 40, .inl (fun _ => 0)))] := hD
  refine lv_aload_n hx hb d_N_init_36 rfl (lv_at hl 0 rfl) ?_
  refine lv_bipush (v := (40 : Int32)) hx hb d_N_init_37 rfl ?_
  refine va_newa (atype := .int) (ty := .int) (a0 := (40, .inl (fun _ => 0))) (N' := 40) hx hb (hts _ bw_37) rfl hK.1 hP hD hS hA (fun _ => rfl) (by decide) rfl (by decide) (Nat.le_of_ble_eq_true rfl) (Nat.le_of_ble_eq_true rfl) d_N_init_39 (fun bB cA H hK2 hP hD hS => ?_)
  have eA := cA_int hK2
  rw [eA] at hP hD
  clear eA hK2
  have hP : va_P (dC, dI) vwCl [(gN, .inr (4, [.ref bTh, .ref bXs, .ref bYs, .int 0, .int 0, .ref bA, .null, .null, .int 0, .null])), (bTh, .inl (cZ, 20, .inl (fun _ => 0))), (bXs, .inl (cI, 20, .inl (fun _ => 0))), (bYs, .inl (cI, 20, .inl (fun _ => 0))), (bA, .inl (cI, 40, .inl (fun _ => 0))), (bB, .inl (cI, 40, .inl (fun _ => 0)))] H := hP
  have hD : va_D A [(gN, .inr (4, [.ref bTh, .ref bXs, .ref bYs, .int 0, .int 0, .ref bA, .null, .null, .int 0, .null])), (bTh, .inl (cZ, 20, .inl (fun _ => 0))), (bXs, .inl (cI, 20, .inl (fun _ => 0))), (bYs, .inl (cI, 20, .inl (fun _ => 0))), (bA, .inl (cI, 40, .inl (fun _ => 0))), (bB, .inl (cI, 40, .inl (fun _ => 0)))] := hD
  refine va_putF (D := (dC, dI)) (ci := 4) (v := .ref bB) (ty := .array .int) (C := R_N) (T := T_N) (N := 10) hx hb hts in_N ty_N tok_N nok_N hown hK.1 hP hD hS 0 rfl rfl 6 (by decide) (hts _ bw_363) (fun _ h9 => h9) rfl hin rfl (by decide +kernel) rfl rfl (Nat.le_of_ble_eq_true rfl) d_N_init_41 (fun H locs hP hD hS => ?_)
  have hP : va_P (dC, dI) vwCl [(gN, .inr (4, [.ref bTh, .ref bXs, .ref bYs, .int 0, .int 0, .ref bA, .ref bB, .null, .int 0, .null])), (bTh, .inl (cZ, 20, .inl (fun _ => 0))), (bXs, .inl (cI, 20, .inl (fun _ => 0))), (bYs, .inl (cI, 20, .inl (fun _ => 0))), (bA, .inl (cI, 40, .inl (fun _ => 0))), (bB, .inl (cI, 40, .inl (fun _ => 0)))] H := hP
  have hD : va_D A [(gN, .inr (4, [.ref bTh, .ref bXs, .ref bYs, .int 0, .int 0, .ref bA, .ref bB, .null, .int 0, .null])), (bTh, .inl (cZ, 20, .inl (fun _ => 0))), (bXs, .inl (cI, 20, .inl (fun _ => 0))), (bYs, .inl (cI, 20, .inl (fun _ => 0))), (bA, .inl (cI, 40, .inl (fun _ => 0))), (bB, .inl (cI, 40, .inl (fun _ => 0)))] := hD
  refine lv_aload_n hx hb d_N_init_44 rfl (lv_at hl 0 rfl) ?_
  refine lv_bipush (v := (40 : Int32)) hx hb d_N_init_45 rfl ?_
  refine va_newa (atype := .int) (ty := .int) (a0 := (40, .inl (fun _ => 0))) (N' := 40) hx hb (hts _ bw_37) rfl hK.1 hP hD hS hA (fun _ => rfl) (by decide) rfl (by decide) (Nat.le_of_ble_eq_true rfl) (Nat.le_of_ble_eq_true rfl) d_N_init_47 (fun bC cA H hK2 hP hD hS => ?_)
  have eA := cA_int hK2
  rw [eA] at hP hD
  clear eA hK2
  have hP : va_P (dC, dI) vwCl [(gN, .inr (4, [.ref bTh, .ref bXs, .ref bYs, .int 0, .int 0, .ref bA, .ref bB, .null, .int 0, .null])), (bTh, .inl (cZ, 20, .inl (fun _ => 0))), (bXs, .inl (cI, 20, .inl (fun _ => 0))), (bYs, .inl (cI, 20, .inl (fun _ => 0))), (bA, .inl (cI, 40, .inl (fun _ => 0))), (bB, .inl (cI, 40, .inl (fun _ => 0))), (bC, .inl (cI, 40, .inl (fun _ => 0)))] H := hP
  have hD : va_D A [(gN, .inr (4, [.ref bTh, .ref bXs, .ref bYs, .int 0, .int 0, .ref bA, .ref bB, .null, .int 0, .null])), (bTh, .inl (cZ, 20, .inl (fun _ => 0))), (bXs, .inl (cI, 20, .inl (fun _ => 0))), (bYs, .inl (cI, 20, .inl (fun _ => 0))), (bA, .inl (cI, 40, .inl (fun _ => 0))), (bB, .inl (cI, 40, .inl (fun _ => 0))), (bC, .inl (cI, 40, .inl (fun _ => 0)))] := hD
  refine va_putF (D := (dC, dI)) (ci := 4) (v := .ref bC) (ty := .array .int) (C := R_N) (T := T_N) (N := 10) hx hb hts in_N ty_N tok_N nok_N hown hK.1 hP hD hS 0 rfl rfl 7 (by decide) (hts _ bw_364) (fun _ h9 => h9) rfl hin rfl (by decide +kernel) rfl rfl (Nat.le_of_ble_eq_true rfl) d_N_init_49 (fun H locs hP hD hS => ?_)
  have hP : va_P (dC, dI) vwCl [(gN, .inr (4, [.ref bTh, .ref bXs, .ref bYs, .int 0, .int 0, .ref bA, .ref bB, .ref bC, .int 0, .null])), (bTh, .inl (cZ, 20, .inl (fun _ => 0))), (bXs, .inl (cI, 20, .inl (fun _ => 0))), (bYs, .inl (cI, 20, .inl (fun _ => 0))), (bA, .inl (cI, 40, .inl (fun _ => 0))), (bB, .inl (cI, 40, .inl (fun _ => 0))), (bC, .inl (cI, 40, .inl (fun _ => 0)))] H := hP
  have hD : va_D A [(gN, .inr (4, [.ref bTh, .ref bXs, .ref bYs, .int 0, .int 0, .ref bA, .ref bB, .ref bC, .int 0, .null])), (bTh, .inl (cZ, 20, .inl (fun _ => 0))), (bXs, .inl (cI, 20, .inl (fun _ => 0))), (bYs, .inl (cI, 20, .inl (fun _ => 0))), (bA, .inl (cI, 40, .inl (fun _ => 0))), (bB, .inl (cI, 40, .inl (fun _ => 0))), (bC, .inl (cI, 40, .inl (fun _ => 0)))] := hD
  refine lv_aload_n hx hb d_N_init_52 rfl (lv_at hl 0 rfl) ?_
  refine lv_bipush (v := (20 : Int32)) hx hb d_N_init_53 rfl ?_
  refine va_newa (atype := .int) (ty := .int) (a0 := (20, .inl (fun _ => 0))) (N' := 20) hx hb (hts _ bw_37) rfl hK.1 hP hD hS hA (fun _ => rfl) (by decide) rfl (by decide) (Nat.le_of_ble_eq_true rfl) (Nat.le_of_ble_eq_true rfl) d_N_init_55 (fun bEd cA H hK2 hP hD hS => ?_)
  have eA := cA_int hK2
  rw [eA] at hP hD
  clear eA hK2
  have hP : va_P (dC, dI) vwCl [(gN, .inr (4, [.ref bTh, .ref bXs, .ref bYs, .int 0, .int 0, .ref bA, .ref bB, .ref bC, .int 0, .null])), (bTh, .inl (cZ, 20, .inl (fun _ => 0))), (bXs, .inl (cI, 20, .inl (fun _ => 0))), (bYs, .inl (cI, 20, .inl (fun _ => 0))), (bA, .inl (cI, 40, .inl (fun _ => 0))), (bB, .inl (cI, 40, .inl (fun _ => 0))), (bC, .inl (cI, 40, .inl (fun _ => 0))), (bEd, .inl (cI, 20, .inl (fun _ => 0)))] H := hP
  have hD : va_D A [(gN, .inr (4, [.ref bTh, .ref bXs, .ref bYs, .int 0, .int 0, .ref bA, .ref bB, .ref bC, .int 0, .null])), (bTh, .inl (cZ, 20, .inl (fun _ => 0))), (bXs, .inl (cI, 20, .inl (fun _ => 0))), (bYs, .inl (cI, 20, .inl (fun _ => 0))), (bA, .inl (cI, 40, .inl (fun _ => 0))), (bB, .inl (cI, 40, .inl (fun _ => 0))), (bC, .inl (cI, 40, .inl (fun _ => 0))), (bEd, .inl (cI, 20, .inl (fun _ => 0)))] := hD
  refine va_putF (D := (dC, dI)) (ci := 4) (v := .ref bEd) (ty := .array .int) (C := R_N) (T := T_N) (N := 10) hx hb hts in_N ty_N tok_N nok_N hown hK.1 hP hD hS 0 rfl rfl 9 (by decide) (hts _ bw_366) (fun _ h9 => h9) rfl hin rfl (by decide +kernel) rfl rfl (Nat.le_of_ble_eq_true rfl) d_N_init_57 (fun H locs hP hD hS => ?_)
  have hP : va_P (dC, dI) vwCl [(gN, .inr (4, [.ref bTh, .ref bXs, .ref bYs, .int 0, .int 0, .ref bA, .ref bB, .ref bC, .int 0, .ref bEd])), (bTh, .inl (cZ, 20, .inl (fun _ => 0))), (bXs, .inl (cI, 20, .inl (fun _ => 0))), (bYs, .inl (cI, 20, .inl (fun _ => 0))), (bA, .inl (cI, 40, .inl (fun _ => 0))), (bB, .inl (cI, 40, .inl (fun _ => 0))), (bC, .inl (cI, 40, .inl (fun _ => 0))), (bEd, .inl (cI, 20, .inl (fun _ => 0)))] H := hP
  have hD : va_D A [(gN, .inr (4, [.ref bTh, .ref bXs, .ref bYs, .int 0, .int 0, .ref bA, .ref bB, .ref bC, .int 0, .ref bEd])), (bTh, .inl (cZ, 20, .inl (fun _ => 0))), (bXs, .inl (cI, 20, .inl (fun _ => 0))), (bYs, .inl (cI, 20, .inl (fun _ => 0))), (bA, .inl (cI, 40, .inl (fun _ => 0))), (bB, .inl (cI, 40, .inl (fun _ => 0))), (bC, .inl (cI, 40, .inl (fun _ => 0))), (bEd, .inl (cI, 20, .inl (fun _ => 0)))] := hD
  refine W.widen (k := 7) (n := 200) (Nat.le_of_ble_eq_true rfl) (Nat.le_of_ble_eq_true rfl) ?_
  have hP9 := hP.sub (ws' := [(gN, .inr (4, [.ref bTh, .ref bXs, .ref bYs, .int 0, .int 0, .ref bA, .ref bB, .ref bC, .int 0, .ref bEd])), (bTh, .inl (cZ, 20, .inl (fun _ => 0))), (bXs, .inl (cI, 20, .inl (fun _ => 0))), (bYs, .inl (cI, 20, .inl (fun _ => 0))), (bA, .inl (cI, 40, .inl (fun _ => 0))), (bB, .inl (cI, 40, .inl (fun _ => 0))), (bC, .inl (cI, 40, .inl (fun _ => 0))), (bEd, .inl (cI, 20, .inl (fun _ => 0)))]) [0, 1, 2, 3, 4, 5, 6, 7] rfl
  have hD9 := hD.sub (ws' := [(gN, .inr (4, [.ref bTh, .ref bXs, .ref bYs, .int 0, .int 0, .ref bA, .ref bB, .ref bC, .int 0, .ref bEd])), (bTh, .inl (cZ, 20, .inl (fun _ => 0))), (bXs, .inl (cI, 20, .inl (fun _ => 0))), (bYs, .inl (cI, 20, .inl (fun _ => 0))), (bA, .inl (cI, 40, .inl (fun _ => 0))), (bB, .inl (cI, 40, .inl (fun _ => 0))), (bC, .inl (cI, 40, .inl (fun _ => 0))), (bEd, .inl (cI, 20, .inl (fun _ => 0)))]) [0, 1, 2, 3, 4, 5, 6, 7] (by decide) rfl
  exact W.vret hx hb hr (fun t ht _ => ⟨⟨(bTh, bXs, bYs, bA, bB, bC, bEd), rfl, trivial, by rw [ht]; exact hP9, hD9⟩, hS.F ht⟩) hS.2.2 d_N_init_60
