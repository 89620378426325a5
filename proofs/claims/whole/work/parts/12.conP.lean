set_option maxHeartbeats 4000000 in
set_option maxRecDepth 100000 in
theorem c_F_inReach (l : Launch) (dC : Nat → ClassId) (dI : Nat → Nat → Nat) (cI cZ : ClassId) (x0 : Int32) (x1 : Int32) (rv : Int32) (hf : f_F_inReach x0 x1 = some rv) : Met l y_F_inReach w_F_inReach ({ frames := 0, cells := 0, slots := 0, locals := 0 } : Room) (PcR dC dI cI cZ [.int x0, .int x1] []) (vp_Si (fun r => r = rv)) 0 0 (fun _ => False) := by
  refine Met.ofW (cc := b_F_inReach) (maxL := 2) (ret := (some .boolean)) (by decide) rfl ?_
  intro p e s m args below meth c s₁ B hml hv
  obtain ⟨rfl, hP, hK⟩ := hv
  have C0 : cx p s m _ meth c b_F_inReach (some .boolean) 2 R_F := ⟨B.exec, B.bytes, B.returns, hml, fun w hw => atoms_spec (ws := w_F_inReach) B.pre w (List.mem_cons_of_mem _ hw), findClass_of_methodNamed B.named, B.notSynchronized⟩
  obtain ⟨hx, hb, hr, hml, hts, hown, hlocks⟩ := id C0
  have hl := lv_entry ([.int x0, .int x1]) (n := 2) (Nat.le_of_ble_eq_true rfl)
  rw [lg_entry_eq]
  generalize (lg_sl ([.int x0, .int x1]) ++ List.replicate (2 - (lg_sl ([.int x0, .int x1])).length) Slot.unset).toArray = ls at hl ⊢
  have hl : lv_has ls 2 [(0, .int x0), (1, .int x1)] := hl
  refine lv_iload_n hx hb d_F_inReach_0 rfl (lv_at hl 0 rfl) ?_
  refine lv_ldc (v := (-1000000 : Int32)) hx hb hown (hts _ bw_106) d_F_inReach_1 ?_
  refine lv_icmp_lt (tgt := 28) hx hb d_F_inReach_3 (by decide) (fun hc1 => ?_) (fun hc1 => ?_)
  · have hf := o_t hf hc1
    refine lv_iconst (v := (0 : Int32)) hx hb d_F_inReach_28 rfl ?_
    cases hf
    exact rr_z hx hb hr hlocks rfl d_F_inReach_29
  · have hf := o_f hf hc1
    refine lv_iload_n hx hb d_F_inReach_6 rfl (lv_at hl 0 rfl) ?_
    refine lv_ldc (v := (1000000 : Int32)) hx hb hown (hts _ bw_107) d_F_inReach_7 ?_
    refine lv_icmp_gt (tgt := 28) hx hb d_F_inReach_9 (by decide) (fun hc2 => ?_) (fun hc2 => ?_)
    · have hf := o_t hf hc2
      refine lv_iconst (v := (0 : Int32)) hx hb d_F_inReach_28 rfl ?_
      cases hf
      exact rr_z hx hb hr hlocks rfl d_F_inReach_29
    · have hf := o_f hf hc2
      refine lv_iload_n hx hb d_F_inReach_12 rfl (lv_at hl 1 rfl) ?_
      refine lv_ldc (v := (-1000000 : Int32)) hx hb hown (hts _ bw_106) d_F_inReach_13 ?_
      refine lv_icmp_lt (tgt := 28) hx hb d_F_inReach_15 (by decide) (fun hc3 => ?_) (fun hc3 => ?_)
      · have hf := o_t hf hc3
        refine lv_iconst (v := (0 : Int32)) hx hb d_F_inReach_28 rfl ?_
        cases hf
        exact rr_z hx hb hr hlocks rfl d_F_inReach_29
      · have hf := o_f hf hc3
        refine lv_iload_n hx hb d_F_inReach_18 rfl (lv_at hl 1 rfl) ?_
        refine lv_ldc (v := (1000000 : Int32)) hx hb hown (hts _ bw_107) d_F_inReach_19 ?_
        refine lv_icmp_gt (tgt := 28) hx hb d_F_inReach_21 (by decide) (fun hc4 => ?_) (fun hc4 => ?_)
        · have hf := o_t hf hc4
          refine lv_iconst (v := (0 : Int32)) hx hb d_F_inReach_28 rfl ?_
          cases hf
          exact rr_z hx hb hr hlocks rfl d_F_inReach_29
        · have hf := o_f hf hc4
          refine lv_iconst (v := (1 : Int32)) hx hb d_F_inReach_24 rfl ?_
          refine lv_goto (tgt := 29) hx hb d_F_inReach_25 (by decide) ?_
          cases hf
          exact rr_z hx hb hr hlocks rfl d_F_inReach_29
set_option maxHeartbeats 4000000 in
set_option maxRecDepth 100000 in
theorem t_P_slotAt_L2 {p : Program} {l : Launch} {e : Env} {s : State} {m : MethodId} {args : Array Value} {below : List Frame} {meth : Method} {c : Code} {dC : Nat → ClassId} {dI : Nat → Nat → Nat} {cI cZ : ClassId} {gP aXs aYs aTk aOr : Nat} {s_xs : Nat → Int32} {s_ys : Nat → Int32} {s_tk : Nat → Int32} {s_pn : Int32} {rv : Int32} (C0 : cx p s m args meth c b_P_slotAt (some .int) 4 R_P) (hK : gK dC dI cI cZ s) (hP : va_P (dC, dI) vwCl [(gP, .inr (1, [.ref aXs, .ref aYs, .ref aTk, .ref aOr, .int s_pn])), (aXs, .inl (cI, 20, .inl s_xs)), (aYs, .inl (cI, 20, .inl s_ys)), (aTk, .inl (cZ, 20, .inl s_tk))] s.heap) : ∀ (n : Nat) (x1 : Int32) (x2 : Int32) (x3 : Int32), f_P_slotAt_L2 s_xs s_ys s_tk n x1 x2 x3 = some rv → ∀ (ls : Array Slot), lv_has ls 4 [(0, .ref gP), (1, .int x1), (2, .int x2), (3, .int x3)] → W p l e (headSpec w_P_slotAt ({ frames := 0, cells := 0, slots := 0, locals := 0 } : Room)).room s m args below meth c s.heap [] 0 0 (MQ below (vp_Si (fun r => r = rv)) args s 0 0 (fun _ => False)) (F0 m 2 ls []) := by
  obtain ⟨hx, hb, hr, hml, hts, hown, hlocks⟩ := id C0
  intro n
  induction n with
  | zero =>
    intro x1 x2 x3 hf
    exact (o_n hf).elim
  | succ n ih =>
    intro x1 x2 x3 hf ls hl
    refine lv_iload_n hx hb d_P_slotAt_2 rfl (lv_at hl 3 rfl) ?_
    refine lv_bipush (v := (20 : Int32)) hx hb d_P_slotAt_3 rfl ?_
    refine lv_icmp_ge (tgt := 45) hx hb d_P_slotAt_5 (by decide) (fun hc1 => ?_) (fun hc1 => ?_)
    · have hf := o_t hf hc1
      refine lv_iconst (v := (-1 : Int32)) hx hb d_P_slotAt_45 rfl ?_
      cases hf
      exact rr_i hx hb hr hlocks d_P_slotAt_46
    · have hf := o_f hf hc1
      refine lv_aload_n hx hb d_P_slotAt_8 rfl (lv_at hl 0 rfl) ?_
      refine va_get (D := (dC, dI)) (ci := 1) (v := .ref aTk) (C := R_P) (T := T_P) (N := 5) hx hb hts in_P hown hK.1 hP 0 rfl rfl 2 (by decide) (hts _ bw_23) (fun _ h9 => h9) rfl d_P_slotAt_9 ?_
      refine lv_iload_n hx hb d_P_slotAt_12 rfl (lv_at hl 3 rfl) ?_
      obtain ⟨hi2, hf⟩ := o_i hf
      refine va_zald (cA := cZ) (n := 20) (f := s_tk) hx hb hK.1 hP 3 1 rfl rfl hi2 d_P_slotAt_13 ?_
      refine lv_if_eq (tgt := 39) hx hb d_P_slotAt_14 (by decide) (fun hc3 => ?_) (fun hc3 => ?_)
      · have hf := o_t hf hc3
        refine lv_iinc (v := (x3 + 1)) (lv' := [(3, .int (x3 + 1)), (0, .ref gP), (1, .int x1), (2, .int x2)]) hx hb d_P_slotAt_39 hl (k := 3) rfl rfl (by decide) rfl (fun ls hl => ?_)
        refine lv_goto (tgt := 2) hx hb d_P_slotAt_42 (by decide) ?_
        exact ih x1 x2 (x3 + 1) hf ls (lv_sub hl [1, 2, 3, 0] rfl)
      · have hf := o_f hf hc3
        refine lv_aload_n hx hb d_P_slotAt_17 rfl (lv_at hl 0 rfl) ?_
        refine va_get (D := (dC, dI)) (ci := 1) (v := .ref aXs) (C := R_P) (T := T_P) (N := 5) hx hb hts in_P hown hK.1 hP 0 rfl rfl 0 (by decide) (hts _ bw_21) (fun _ h9 => h9) rfl d_P_slotAt_18 ?_
        refine lv_iload_n hx hb d_P_slotAt_21 rfl (lv_at hl 3 rfl) ?_
        obtain ⟨hi4, hf⟩ := o_i hf
        refine va_iald (cA := cI) (n := 20) (f := s_xs) hx hb hK.1 hP 1 0 rfl rfl hi4 d_P_slotAt_22 ?_
        refine lv_iload_n hx hb d_P_slotAt_23 rfl (lv_at hl 1 rfl) ?_
        refine lv_icmp_ne (tgt := 39) hx hb d_P_slotAt_24 (by decide) (fun hc5 => ?_) (fun hc5 => ?_)
        · have hf := o_f hf hc5
          refine lv_iinc (v := (x3 + 1)) (lv' := [(3, .int (x3 + 1)), (0, .ref gP), (1, .int x1), (2, .int x2)]) hx hb d_P_slotAt_39 hl (k := 3) rfl rfl (by decide) rfl (fun ls hl => ?_)
          refine lv_goto (tgt := 2) hx hb d_P_slotAt_42 (by decide) ?_
          exact ih x1 x2 (x3 + 1) hf ls (lv_sub hl [1, 2, 3, 0] rfl)
        · have hf := o_t hf hc5
          refine lv_aload_n hx hb d_P_slotAt_27 rfl (lv_at hl 0 rfl) ?_
          refine va_get (D := (dC, dI)) (ci := 1) (v := .ref aYs) (C := R_P) (T := T_P) (N := 5) hx hb hts in_P hown hK.1 hP 0 rfl rfl 1 (by decide) (hts _ bw_22) (fun _ h9 => h9) rfl d_P_slotAt_28 ?_
          refine lv_iload_n hx hb d_P_slotAt_31 rfl (lv_at hl 3 rfl) ?_
          obtain ⟨hi6, hf⟩ := o_i hf
          refine va_iald (cA := cI) (n := 20) (f := s_ys) hx hb hK.1 hP 2 0 rfl rfl hi6 d_P_slotAt_32 ?_
          refine lv_iload_n hx hb d_P_slotAt_33 rfl (lv_at hl 2 rfl) ?_
          refine lv_icmp_ne (tgt := 39) hx hb d_P_slotAt_34 (by decide) (fun hc7 => ?_) (fun hc7 => ?_)
          · have hf := o_f hf hc7
            refine lv_iinc (v := (x3 + 1)) (lv' := [(3, .int (x3 + 1)), (0, .ref gP), (1, .int x1), (2, .int x2)]) hx hb d_P_slotAt_39 hl (k := 3) rfl rfl (by decide) rfl (fun ls hl => ?_)
            refine lv_goto (tgt := 2) hx hb d_P_slotAt_42 (by decide) ?_
            exact ih x1 x2 (x3 + 1) hf ls (lv_sub hl [1, 2, 3, 0] rfl)
          · have hf := o_t hf hc7
            refine lv_iload_n hx hb d_P_slotAt_37 rfl (lv_at hl 3 rfl) ?_
            cases hf
            exact rr_i hx hb hr hlocks d_P_slotAt_38
set_option maxHeartbeats 4000000 in
set_option maxRecDepth 100000 in
theorem c_P_slotAt (l : Launch) (dC : Nat → ClassId) (dI : Nat → Nat → Nat) (cI cZ : ClassId) (gP aXs aYs aTk aOr : Nat) (s_xs : Nat → Int32) (s_ys : Nat → Int32) (s_tk : Nat → Int32) (s_pn : Int32) (x1 : Int32) (x2 : Int32) (rv : Int32) (hf : f_P_slotAt s_xs s_ys s_tk x1 x2 = some rv) : Met l y_P_slotAt w_P_slotAt ({ frames := 0, cells := 0, slots := 0, locals := 0 } : Room) (PcR dC dI cI cZ [.ref gP, .int x1, .int x2] [(gP, .inr (1, [.ref aXs, .ref aYs, .ref aTk, .ref aOr, .int s_pn])), (aXs, .inl (cI, 20, .inl s_xs)), (aYs, .inl (cI, 20, .inl s_ys)), (aTk, .inl (cZ, 20, .inl s_tk))]) (vp_Si (fun r => r = rv)) 0 0 (fun _ => False) := by
  refine Met.ofW (cc := b_P_slotAt) (maxL := 4) (ret := (some .int)) (by decide) rfl ?_
  intro p e s m args below meth c s₁ B hml hv
  obtain ⟨rfl, hP, hK⟩ := hv
  have C0 : cx p s m _ meth c b_P_slotAt (some .int) 4 R_P := ⟨B.exec, B.bytes, B.returns, hml, fun w hw => atoms_spec (ws := w_P_slotAt) B.pre w (List.mem_cons_of_mem _ hw), findClass_of_methodNamed B.named, B.notSynchronized⟩
  obtain ⟨hx, hb, hr, hml, hts, hown, hlocks⟩ := id C0
  have hl := lv_entry ([.ref gP, .int x1, .int x2]) (n := 4) (Nat.le_of_ble_eq_true rfl)
  rw [lg_entry_eq]
  generalize (lg_sl ([.ref gP, .int x1, .int x2]) ++ List.replicate (4 - (lg_sl ([.ref gP, .int x1, .int x2])).length) Slot.unset).toArray = ls at hl ⊢
  have hl : lv_has ls 4 [(0, .ref gP), (1, .int x1), (2, .int x2)] := hl
  refine lv_iconst (v := (0 : Int32)) hx hb d_P_slotAt_0 rfl ?_
  refine lv_istore_n (lv' := [(3, .int (0 : Int32)), (0, .ref gP), (1, .int x1), (2, .int x2)]) hx hb d_P_slotAt_1 rfl hl (by decide) rfl (fun ls hl => ?_)
  exact t_P_slotAt_L2 C0 hK hP  600 x1 x2 (0 : Int32) hf ls (lv_sub hl [1, 2, 3, 0] rfl)
set_option maxHeartbeats 4000000 in
set_option maxRecDepth 100000 in
theorem t_P_freeSlot_L2 {p : Program} {l : Launch} {e : Env} {s : State} {m : MethodId} {args : Array Value} {below : List Frame} {meth : Method} {c : Code} {dC : Nat → ClassId} {dI : Nat → Nat → Nat} {cI cZ : ClassId} {gP aXs aYs aTk aOr : Nat} {s_tk : Nat → Int32} {s_pn : Int32} {rv : Int32} (C0 : cx p s m args meth c b_P_freeSlot (some .int) 2 R_P) (hK : gK dC dI cI cZ s) (hP : va_P (dC, dI) vwCl [(gP, .inr (1, [.ref aXs, .ref aYs, .ref aTk, .ref aOr, .int s_pn])), (aTk, .inl (cZ, 20, .inl s_tk))] s.heap) : ∀ (n : Nat) (x1 : Int32), f_P_freeSlot_L2 s_tk n x1 = some rv → ∀ (ls : Array Slot), lv_has ls 2 [(0, .ref gP), (1, .int x1)] → W p l e (headSpec w_P_freeSlot ({ frames := 0, cells := 0, slots := 0, locals := 0 } : Room)).room s m args below meth c s.heap [] 0 0 (MQ below (vp_Si (fun r => r = rv)) args s 0 0 (fun _ => False)) (F0 m 2 ls []) := by
  obtain ⟨hx, hb, hr, hml, hts, hown, hlocks⟩ := id C0
  intro n
  induction n with
  | zero =>
    intro x1 hf
    exact (o_n hf).elim
  | succ n ih =>
    intro x1 hf ls hl
    refine lv_iload_n hx hb d_P_freeSlot_2 rfl (lv_at hl 1 rfl) ?_
    refine lv_bipush (v := (20 : Int32)) hx hb d_P_freeSlot_3 rfl ?_
    refine lv_icmp_ge (tgt := 25) hx hb d_P_freeSlot_5 (by decide) (fun hc1 => ?_) (fun hc1 => ?_)
    · have hf := o_t hf hc1
      refine lv_iconst (v := (-1 : Int32)) hx hb d_P_freeSlot_25 rfl ?_
      cases hf
      exact rr_i hx hb hr hlocks d_P_freeSlot_26
    · have hf := o_f hf hc1
      refine lv_aload_n hx hb d_P_freeSlot_8 rfl (lv_at hl 0 rfl) ?_
      refine va_get (D := (dC, dI)) (ci := 1) (v := .ref aTk) (C := R_P) (T := T_P) (N := 5) hx hb hts in_P hown hK.1 hP 0 rfl rfl 2 (by decide) (hts _ bw_23) (fun _ h9 => h9) rfl d_P_freeSlot_9 ?_
      refine lv_iload_n hx hb d_P_freeSlot_12 rfl (lv_at hl 1 rfl) ?_
      obtain ⟨hi2, hf⟩ := o_i hf
      refine va_zald (cA := cZ) (n := 20) (f := s_tk) hx hb hK.1 hP 1 1 rfl rfl hi2 d_P_freeSlot_13 ?_
      refine lv_if_ne (tgt := 19) hx hb d_P_freeSlot_14 (by decide) (fun hc3 => ?_) (fun hc3 => ?_)
      · have hf := o_f hf hc3
        refine lv_iinc (v := (x1 + 1)) (lv' := [(1, .int (x1 + 1)), (0, .ref gP)]) hx hb d_P_freeSlot_19 hl (k := 1) rfl rfl (by decide) rfl (fun ls hl => ?_)
        refine lv_goto (tgt := 2) hx hb d_P_freeSlot_22 (by decide) ?_
        exact ih (x1 + 1) hf ls (lv_sub hl [1, 0] rfl)
      · have hf := o_t hf hc3
        refine lv_iload_n hx hb d_P_freeSlot_17 rfl (lv_at hl 1 rfl) ?_
        cases hf
        exact rr_i hx hb hr hlocks d_P_freeSlot_18
set_option maxHeartbeats 4000000 in
set_option maxRecDepth 100000 in
theorem c_P_freeSlot (l : Launch) (dC : Nat → ClassId) (dI : Nat → Nat → Nat) (cI cZ : ClassId) (gP aXs aYs aTk aOr : Nat) (s_tk : Nat → Int32) (s_pn : Int32) (rv : Int32) (hf : f_P_freeSlot s_tk = some rv) : Met l y_P_freeSlot w_P_freeSlot ({ frames := 0, cells := 0, slots := 0, locals := 0 } : Room) (PcR dC dI cI cZ [.ref gP] [(gP, .inr (1, [.ref aXs, .ref aYs, .ref aTk, .ref aOr, .int s_pn])), (aTk, .inl (cZ, 20, .inl s_tk))]) (vp_Si (fun r => r = rv)) 0 0 (fun _ => False) := by
  refine Met.ofW (cc := b_P_freeSlot) (maxL := 2) (ret := (some .int)) (by decide) rfl ?_
  intro p e s m args below meth c s₁ B hml hv
  obtain ⟨rfl, hP, hK⟩ := hv
  have C0 : cx p s m _ meth c b_P_freeSlot (some .int) 2 R_P := ⟨B.exec, B.bytes, B.returns, hml, fun w hw => atoms_spec (ws := w_P_freeSlot) B.pre w (List.mem_cons_of_mem _ hw), findClass_of_methodNamed B.named, B.notSynchronized⟩
  obtain ⟨hx, hb, hr, hml, hts, hown, hlocks⟩ := id C0
  have hl := lv_entry ([.ref gP]) (n := 2) (Nat.le_of_ble_eq_true rfl)
  rw [lg_entry_eq]
  generalize (lg_sl ([.ref gP]) ++ List.replicate (2 - (lg_sl ([.ref gP])).length) Slot.unset).toArray = ls at hl ⊢
  have hl : lv_has ls 2 [(0, .ref gP)] := hl
  refine lv_iconst (v := (0 : Int32)) hx hb d_P_freeSlot_0 rfl ?_
  refine lv_istore_n (lv' := [(1, .int (0 : Int32)), (0, .ref gP)]) hx hb d_P_freeSlot_1 rfl hl (by decide) rfl (fun ls hl => ?_)
  exact t_P_freeSlot_L2 C0 hK hP  600 (0 : Int32) hf ls (lv_sub hl [1, 0] rfl)
set_option maxHeartbeats 4000000 in
set_option maxRecDepth 100000 in
theorem c_P_isEarlier (l : Launch) (dC : Nat → ClassId) (dI : Nat → Nat → Nat) (cI cZ : ClassId) (gP aXs aYs aTk aOr : Nat) (s_xs : Nat → Int32) (s_ys : Nat → Int32) (s_pn : Int32) (x1 : Int32) (x2 : Int32) (rv : Int32) (hf : f_P_isEarlier s_xs s_ys x1 x2 = some rv) : Met l y_P_isEarlier w_P_isEarlier ({ frames := 0, cells := 0, slots := 0, locals := 0 } : Room) (PcR dC dI cI cZ [.ref gP, .int x1, .int x2] [(gP, .inr (1, [.ref aXs, .ref aYs, .ref aTk, .ref aOr, .int s_pn])), (aXs, .inl (cI, 20, .inl s_xs)), (aYs, .inl (cI, 20, .inl s_ys))]) (vp_Si (fun r => r = rv)) 0 0 (fun _ => False) := by
  refine Met.ofW (cc := b_P_isEarlier) (maxL := 3) (ret := (some .boolean)) (by decide) rfl ?_
  intro p e s m args below meth c s₁ B hml hv
  obtain ⟨rfl, hP, hK⟩ := hv
  have C0 : cx p s m _ meth c b_P_isEarlier (some .boolean) 3 R_P := ⟨B.exec, B.bytes, B.returns, hml, fun w hw => atoms_spec (ws := w_P_isEarlier) B.pre w (List.mem_cons_of_mem _ hw), findClass_of_methodNamed B.named, B.notSynchronized⟩
  obtain ⟨hx, hb, hr, hml, hts, hown, hlocks⟩ := id C0
  have hl := lv_entry ([.ref gP, .int x1, .int x2]) (n := 3) (Nat.le_of_ble_eq_true rfl)
  rw [lg_entry_eq]
  generalize (lg_sl ([.ref gP, .int x1, .int x2]) ++ List.replicate (3 - (lg_sl ([.ref gP, .int x1, .int x2])).length) Slot.unset).toArray = ls at hl ⊢
  have hl : lv_has ls 3 [(0, .ref gP), (1, .int x1), (2, .int x2)] := hl
  refine lv_aload_n hx hb d_P_isEarlier_0 rfl (lv_at hl 0 rfl) ?_
  refine va_get (D := (dC, dI)) (ci := 1) (v := .ref aXs) (C := R_P) (T := T_P) (N := 5) hx hb hts in_P hown hK.1 hP 0 rfl rfl 0 (by decide) (hts _ bw_21) (fun _ h9 => h9) rfl d_P_isEarlier_1 ?_
  refine lv_iload_n hx hb d_P_isEarlier_4 rfl (lv_at hl 1 rfl) ?_
  obtain ⟨hi1, hf⟩ := o_i hf
  refine va_iald (cA := cI) (n := 20) (f := s_xs) hx hb hK.1 hP 1 0 rfl rfl hi1 d_P_isEarlier_5 ?_
  refine lv_aload_n hx hb d_P_isEarlier_6 rfl (lv_at hl 0 rfl) ?_
  refine va_get (D := (dC, dI)) (ci := 1) (v := .ref aXs) (C := R_P) (T := T_P) (N := 5) hx hb hts in_P hown hK.1 hP 0 rfl rfl 0 (by decide) (hts _ bw_21) (fun _ h9 => h9) rfl d_P_isEarlier_7 ?_
  refine lv_iload_n hx hb d_P_isEarlier_10 rfl (lv_at hl 2 rfl) ?_
  obtain ⟨hi2, hf⟩ := o_i hf
  refine va_iald (cA := cI) (n := 20) (f := s_xs) hx hb hK.1 hP 1 0 rfl rfl hi2 d_P_isEarlier_11 ?_
  refine lv_icmp_lt (tgt := 45) hx hb d_P_isEarlier_12 (by decide) (fun hc3 => ?_) (fun hc3 => ?_)
  · have hf := o_t hf hc3
    refine lv_iconst (v := (1 : Int32)) hx hb d_P_isEarlier_45 rfl ?_
    refine lv_goto (tgt := 50) hx hb d_P_isEarlier_46 (by decide) ?_
    cases hf
    exact rr_z hx hb hr hlocks rfl d_P_isEarlier_50
  · have hf := o_f hf hc3
    refine lv_aload_n hx hb d_P_isEarlier_15 rfl (lv_at hl 0 rfl) ?_
    refine va_get (D := (dC, dI)) (ci := 1) (v := .ref aXs) (C := R_P) (T := T_P) (N := 5) hx hb hts in_P hown hK.1 hP 0 rfl rfl 0 (by decide) (hts _ bw_21) (fun _ h9 => h9) rfl d_P_isEarlier_16 ?_
    refine lv_iload_n hx hb d_P_isEarlier_19 rfl (lv_at hl 1 rfl) ?_
    obtain ⟨hi4, hf⟩ := o_i hf
    refine va_iald (cA := cI) (n := 20) (f := s_xs) hx hb hK.1 hP 1 0 rfl rfl hi4 d_P_isEarlier_20 ?_
    refine lv_aload_n hx hb d_P_isEarlier_21 rfl (lv_at hl 0 rfl) ?_
    refine va_get (D := (dC, dI)) (ci := 1) (v := .ref aXs) (C := R_P) (T := T_P) (N := 5) hx hb hts in_P hown hK.1 hP 0 rfl rfl 0 (by decide) (hts _ bw_21) (fun _ h9 => h9) rfl d_P_isEarlier_22 ?_
    refine lv_iload_n hx hb d_P_isEarlier_25 rfl (lv_at hl 2 rfl) ?_
    obtain ⟨hi5, hf⟩ := o_i hf
    refine va_iald (cA := cI) (n := 20) (f := s_xs) hx hb hK.1 hP 1 0 rfl rfl hi5 d_P_isEarlier_26 ?_
    refine lv_icmp_ne (tgt := 49) hx hb d_P_isEarlier_27 (by decide) (fun hc6 => ?_) (fun hc6 => ?_)
    · have hf := o_f hf hc6
      refine lv_iconst (v := (0 : Int32)) hx hb d_P_isEarlier_49 rfl ?_
      cases hf
      exact rr_z hx hb hr hlocks rfl d_P_isEarlier_50
    · have hf := o_t hf hc6
      refine lv_aload_n hx hb d_P_isEarlier_30 rfl (lv_at hl 0 rfl) ?_
      refine va_get (D := (dC, dI)) (ci := 1) (v := .ref aYs) (C := R_P) (T := T_P) (N := 5) hx hb hts in_P hown hK.1 hP 0 rfl rfl 1 (by decide) (hts _ bw_22) (fun _ h9 => h9) rfl d_P_isEarlier_31 ?_
      refine lv_iload_n hx hb d_P_isEarlier_34 rfl (lv_at hl 1 rfl) ?_
      obtain ⟨hi7, hf⟩ := o_i hf
      refine va_iald (cA := cI) (n := 20) (f := s_ys) hx hb hK.1 hP 2 0 rfl rfl hi7 d_P_isEarlier_35 ?_
      refine lv_aload_n hx hb d_P_isEarlier_36 rfl (lv_at hl 0 rfl) ?_
      refine va_get (D := (dC, dI)) (ci := 1) (v := .ref aYs) (C := R_P) (T := T_P) (N := 5) hx hb hts in_P hown hK.1 hP 0 rfl rfl 1 (by decide) (hts _ bw_22) (fun _ h9 => h9) rfl d_P_isEarlier_37 ?_
      refine lv_iload_n hx hb d_P_isEarlier_40 rfl (lv_at hl 2 rfl) ?_
      obtain ⟨hi8, hf⟩ := o_i hf
      refine va_iald (cA := cI) (n := 20) (f := s_ys) hx hb hK.1 hP 2 0 rfl rfl hi8 d_P_isEarlier_41 ?_
      refine lv_icmp_ge (tgt := 49) hx hb d_P_isEarlier_42 (by decide) (fun hc9 => ?_) (fun hc9 => ?_)
      · have hf := o_t hf hc9
        refine lv_iconst (v := (0 : Int32)) hx hb d_P_isEarlier_49 rfl ?_
        cases hf
        exact rr_z hx hb hr hlocks rfl d_P_isEarlier_50
      · have hf := o_f hf hc9
        refine lv_iconst (v := (1 : Int32)) hx hb d_P_isEarlier_45 rfl ?_
        refine lv_goto (tgt := 50) hx hb d_P_isEarlier_46 (by decide) ?_
        cases hf
        exact rr_z hx hb hr hlocks rfl d_P_isEarlier_50
set_option maxHeartbeats 4000000 in
set_option maxRecDepth 100000 in
theorem t_P_put_b71 {p : Program} {l : Launch} {e : Env} {s : State} {m : MethodId} {args : Array Value} {below : List Frame} {meth : Method} {c : Code} {dC : Nat → ClassId} {dI : Nat → Nat → Nat} {cI cZ : ClassId} {gP aXs aYs aTk aOr : Nat} {s_xs' : Nat → Int32} {s_ys' : Nat → Int32} {s_tk' : Nat → Int32} {s_or' : Nat → Int32} {s_pn' : Int32} {A : Nat → Prop} (C0 : cx p s m args meth c b_P_put none 5 R_P) (hK : gK dC dI cI cZ s) (hA : ∀ q, s.heap.size ≤ q → A q) : ∀ (s_xs : Nat → Int32) (s_ys : Nat → Int32) (s_tk : Nat → Int32) (s_or : Nat → Int32) (s_pn : Int32) (x1 : Int32) (x4 : Int32), f_P_put_b71  s_xs s_ys s_tk s_or s_pn x1 x4 = some (s_xs', s_ys', s_tk', s_or', s_pn') → ∀ (H : Heap) (locs : List Loc), va_P (dC, dI) vwCl [(gP, .inr (1, [.ref aXs, .ref aYs, .ref aTk, .ref aOr, .int s_pn])), (aXs, .inl (cI, 20, .inl s_xs)), (aYs, .inl (cI, 20, .inl s_ys)), (aTk, .inl (cZ, 20, .inl s_tk)), (aOr, .inl (cI, 20, .inl s_or))] H → va_D A [(gP, .inr (1, [.ref aXs, .ref aYs, .ref aTk, .ref aOr, .int s_pn])), (aXs, .inl (cI, 20, .inl s_xs)), (aYs, .inl (cI, 20, .inl s_ys)), (aTk, .inl (cZ, 20, .inl s_tk)), (aOr, .inl (cI, 20, .inl s_or))] → va_S A s.heap H locs → ∀ (ls : Array Slot), lv_has ls 5 [(0, .ref gP), (1, .int x1), (4, .int x4)] → W p l e (headSpec w_P_put ({ frames := 1, cells := 0, slots := 0, locals := 22 } : Room)).room s m args below meth c H locs 0 0 (MQ below (QwV dC dI A [(gP, .inr (1, [.ref aXs, .ref aYs, .ref aTk, .ref aOr, .int s_pn'])), (aXs, .inl (cI, 20, .inl s_xs')), (aYs, .inl (cI, 20, .inl s_ys')), (aTk, .inl (cZ, 20, .inl s_tk')), (aOr, .inl (cI, 20, .inl s_or'))]) args s 0 0 A) (F0 m 71 ls []) := by
  obtain ⟨hx, hb, hr, hml, hts, hown, hlocks⟩ := id C0
  intro s_xs s_ys s_tk s_or s_pn x1 x4 hf H locs hP hD hS ls hl
  refine lv_aload_n hx hb d_P_put_71 rfl (lv_at hl 0 rfl) ?_
  refine va_get (D := (dC, dI)) (ci := 1) (v := .ref aOr) (C := R_P) (T := T_P) (N := 5) hx hb hts in_P hown hK.1 hP 0 rfl rfl 3 (by decide) (hts _ bw_24) (fun _ h9 => h9) rfl d_P_put_72 ?_
  refine lv_iload hx hb d_P_put_75 (lv_at hl 2 rfl) ?_
  refine lv_iload_n hx hb d_P_put_77 rfl (lv_at hl 1 rfl) ?_
  obtain ⟨hi1, hf⟩ := o_i hf
  refine va_iast (cA := cI) (n := 20) (f := s_or) hx hb hK.1 hP hD hS 4 0 rfl rfl hi1 d_P_put_78 (fun H locs hP hD hS => ?_)
  have hP : va_P (dC, dI) vwCl [(gP, .inr (1, [.ref aXs, .ref aYs, .ref aTk, .ref aOr, .int s_pn])), (aXs, .inl (cI, 20, .inl s_xs)), (aYs, .inl (cI, 20, .inl s_ys)), (aTk, .inl (cZ, 20, .inl s_tk)), (aOr, .inl (cI, 20, .inl (upd s_or x4.toNatClampNeg x1)))] H := hP
  have hD : va_D A [(gP, .inr (1, [.ref aXs, .ref aYs, .ref aTk, .ref aOr, .int s_pn])), (aXs, .inl (cI, 20, .inl s_xs)), (aYs, .inl (cI, 20, .inl s_ys)), (aTk, .inl (cZ, 20, .inl s_tk)), (aOr, .inl (cI, 20, .inl (upd s_or x4.toNatClampNeg x1)))] := hD
  refine lv_aload_n hx hb d_P_put_79 rfl (lv_at hl 0 rfl) ?_
  refine lv_dup hx hb d_P_put_80 rfl ?_
  refine va_get (D := (dC, dI)) (ci := 1) (v := .int s_pn) (C := R_P) (T := T_P) (N := 5) hx hb hts in_P hown hK.1 hP 0 rfl rfl 4 (by decide) (hts _ bw_25) (fun _ h9 => h9) rfl d_P_put_81 ?_
  refine lv_iconst (v := (1 : Int32)) hx hb d_P_put_84 rfl ?_
  refine lv_iadd hx hb d_P_put_85 ?_
  refine va_put (D := (dC, dI)) (ci := 1) (v := .int (s_pn + (1 : Int32))) (ty := .int) (C := R_P) (T := T_P) (N := 5) hx hb hts in_P ty_P tok_P nok_P hown hK.1 hP hD hS 0 rfl rfl 4 (by decide) (hts _ bw_25) (fun _ h9 => h9) rfl (by decide +kernel) rfl rfl (Nat.le_of_ble_eq_true rfl) d_P_put_86 (fun H locs hP hD hS => ?_)
  have hP : va_P (dC, dI) vwCl [(gP, .inr (1, [.ref aXs, .ref aYs, .ref aTk, .ref aOr, .int (s_pn + (1 : Int32))])), (aXs, .inl (cI, 20, .inl s_xs)), (aYs, .inl (cI, 20, .inl s_ys)), (aTk, .inl (cZ, 20, .inl s_tk)), (aOr, .inl (cI, 20, .inl (upd s_or x4.toNatClampNeg x1)))] H := hP
  have hD : va_D A [(gP, .inr (1, [.ref aXs, .ref aYs, .ref aTk, .ref aOr, .int (s_pn + (1 : Int32))])), (aXs, .inl (cI, 20, .inl s_xs)), (aYs, .inl (cI, 20, .inl s_ys)), (aTk, .inl (cZ, 20, .inl s_tk)), (aOr, .inl (cI, 20, .inl (upd s_or x4.toNatClampNeg x1)))] := hD
  cases hf
  exact wr_v hx hb hr hlocks hP hD hS d_P_put_89
set_option maxHeartbeats 4000000 in
set_option maxRecDepth 100000 in
theorem t_P_put_L27 {p : Program} {l : Launch} {e : Env} {s : State} {m : MethodId} {args : Array Value} {below : List Frame} {meth : Method} {c : Code} {dC : Nat → ClassId} {dI : Nat → Nat → Nat} {cI cZ : ClassId} {gP aXs aYs aTk aOr : Nat} {s_xs' : Nat → Int32} {s_ys' : Nat → Int32} {s_tk' : Nat → Int32} {s_or' : Nat → Int32} {s_pn' : Int32} {A : Nat → Prop} (C0 : cx p s m args meth c b_P_put none 5 R_P) (hK : gK dC dI cI cZ s) (hA : ∀ q, s.heap.size ≤ q → A q) : ∀ (n : Nat) (s_xs : Nat → Int32) (s_ys : Nat → Int32) (s_tk : Nat → Int32) (s_or : Nat → Int32) (s_pn : Int32) (x1 : Int32) (x4 : Int32), f_P_put_L27  n s_xs s_ys s_tk s_or s_pn x1 x4 = some (s_xs', s_ys', s_tk', s_or', s_pn') → ∀ (H : Heap) (locs : List Loc), va_P (dC, dI) vwCl [(gP, .inr (1, [.ref aXs, .ref aYs, .ref aTk, .ref aOr, .int s_pn])), (aXs, .inl (cI, 20, .inl s_xs)), (aYs, .inl (cI, 20, .inl s_ys)), (aTk, .inl (cZ, 20, .inl s_tk)), (aOr, .inl (cI, 20, .inl s_or))] H → va_D A [(gP, .inr (1, [.ref aXs, .ref aYs, .ref aTk, .ref aOr, .int s_pn])), (aXs, .inl (cI, 20, .inl s_xs)), (aYs, .inl (cI, 20, .inl s_ys)), (aTk, .inl (cZ, 20, .inl s_tk)), (aOr, .inl (cI, 20, .inl s_or))] → va_S A s.heap H locs → ∀ (ls : Array Slot), lv_has ls 5 [(0, .ref gP), (1, .int x1), (4, .int x4)] → W p l e (headSpec w_P_put ({ frames := 1, cells := 0, slots := 0, locals := 22 } : Room)).room s m args below meth c H locs 0 0 (MQ below (QwV dC dI A [(gP, .inr (1, [.ref aXs, .ref aYs, .ref aTk, .ref aOr, .int s_pn'])), (aXs, .inl (cI, 20, .inl s_xs')), (aYs, .inl (cI, 20, .inl s_ys')), (aTk, .inl (cZ, 20, .inl s_tk')), (aOr, .inl (cI, 20, .inl s_or'))]) args s 0 0 A) (F0 m 27 ls []) := by
  obtain ⟨hx, hb, hr, hml, hts, hown, hlocks⟩ := id C0
  intro n
  induction n with
  | zero =>
    intro s_xs s_ys s_tk s_or s_pn x1 x4 hf
    exact (o_n hf).elim
  | succ n ih =>
    intro s_xs s_ys s_tk s_or s_pn x1 x4 hf H locs hP hD hS ls hl
    refine lv_iload hx hb d_P_put_27 (lv_at hl 2 rfl) ?_
    refine lv_if_le (tgt := 71) hx hb d_P_put_29 (by decide) (fun hc2 => ?_) (fun hc2 => ?_)
    · have hf := o_t hf hc2
      exact t_P_put_b71 C0 hK hA  s_xs s_ys s_tk s_or s_pn x1 x4 hf _ _ hP hD hS ls (lv_sub hl [0, 1, 2] rfl)
    · have hf := o_f hf hc2
      refine lv_aload_n hx hb d_P_put_32 rfl (lv_at hl 0 rfl) ?_
      refine lv_iload_n hx hb d_P_put_33 rfl (lv_at hl 1 rfl) ?_
      refine lv_aload_n hx hb d_P_put_34 rfl (lv_at hl 0 rfl) ?_
      refine va_get (D := (dC, dI)) (ci := 1) (v := .ref aOr) (C := R_P) (T := T_P) (N := 5) hx hb hts in_P hown hK.1 hP 0 rfl rfl 3 (by decide) (hts _ bw_24) (fun _ h9 => h9) rfl d_P_put_35 ?_
      refine lv_iload hx hb d_P_put_38 (lv_at hl 2 rfl) ?_
      refine lv_iconst (v := (1 : Int32)) hx hb d_P_put_40 rfl ?_
      refine lv_isub hx hb d_P_put_41 ?_
      obtain ⟨hi3, hf⟩ := o_i hf
      refine va_iald (cA := cI) (n := 20) (f := s_or) hx hb hK.1 hP 4 0 rfl rfl hi3 d_P_put_42 ?_
      obtain ⟨r4, hv6, hf⟩ := o_b hf
      refine rc_i (va_runV (As := [.int x1, .int (s_or (x4 - (1 : Int32)).toNatClampNeg)]) (rest := []) ⟨hx, hb, hml, hown, hts⟩ (c_P_isEarlier l dC dI cI cZ gP aXs aYs aTk aOr s_xs s_ys s_pn x1 (s_or (x4 - (1 : Int32)).toNatClampNeg) r4 hv6) (cwV 2 hts (gd_V bw_120 bw_122 bp_0 bw_2 bw_123) rfl rfl rfl ⟨rfl, hd_P_isEarlier⟩ ⟨Nat.le_of_ble_eq_true rfl, Nat.le_of_ble_eq_true rfl⟩) (pv_r (wc := [(gP, .inr (1, [.ref aXs, .ref aYs, .ref aTk, .ref aOr, .int s_pn])), (aXs, .inl (cI, 20, .inl s_xs)), (aYs, .inl (cI, 20, .inl s_ys))]) hK hP [0, 1, 2] rfl 0 (ci := 1) rfl rfl) rfl rfl hl.1 rfl (lv_room (Nat.le_of_ble_eq_true rfl)) d_P_put_43 ⟨Nat.zero_le _, Nat.zero_le _⟩) ?_
      refine lv_if_eq (tgt := 71) hx hb d_P_put_46 (by decide) (fun hc7 => ?_) (fun hc7 => ?_)
      · have hf := o_t hf hc7
        exact t_P_put_b71 C0 hK hA  s_xs s_ys s_tk s_or s_pn x1 x4 hf _ _ hP hD hS ls (lv_sub hl [0, 1, 2] rfl)
      · have hf := o_f hf hc7
        refine lv_aload_n hx hb d_P_put_49 rfl (lv_at hl 0 rfl) ?_
        refine va_get (D := (dC, dI)) (ci := 1) (v := .ref aOr) (C := R_P) (T := T_P) (N := 5) hx hb hts in_P hown hK.1 hP 0 rfl rfl 3 (by decide) (hts _ bw_24) (fun _ h9 => h9) rfl d_P_put_50 ?_
        refine lv_iload hx hb d_P_put_53 (lv_at hl 2 rfl) ?_
        refine lv_aload_n hx hb d_P_put_55 rfl (lv_at hl 0 rfl) ?_
        refine va_get (D := (dC, dI)) (ci := 1) (v := .ref aOr) (C := R_P) (T := T_P) (N := 5) hx hb hts in_P hown hK.1 hP 0 rfl rfl 3 (by decide) (hts _ bw_24) (fun _ h9 => h9) rfl d_P_put_56 ?_
        refine lv_iload hx hb d_P_put_59 (lv_at hl 2 rfl) ?_
        refine lv_iconst (v := (1 : Int32)) hx hb d_P_put_61 rfl ?_
        refine lv_isub hx hb d_P_put_62 ?_
        obtain ⟨hi8, hf⟩ := o_i hf
        refine va_iald (cA := cI) (n := 20) (f := s_or) hx hb hK.1 hP 4 0 rfl rfl hi8 d_P_put_63 ?_
        obtain ⟨hi9, hf⟩ := o_i hf
        refine va_iast (cA := cI) (n := 20) (f := s_or) hx hb hK.1 hP hD hS 4 0 rfl rfl hi9 d_P_put_64 (fun H locs hP hD hS => ?_)
        have hP : va_P (dC, dI) vwCl [(gP, .inr (1, [.ref aXs, .ref aYs, .ref aTk, .ref aOr, .int s_pn])), (aXs, .inl (cI, 20, .inl s_xs)), (aYs, .inl (cI, 20, .inl s_ys)), (aTk, .inl (cZ, 20, .inl s_tk)), (aOr, .inl (cI, 20, .inl (upd s_or x4.toNatClampNeg (s_or (x4 - (1 : Int32)).toNatClampNeg))))] H := hP
        have hD : va_D A [(gP, .inr (1, [.ref aXs, .ref aYs, .ref aTk, .ref aOr, .int s_pn])), (aXs, .inl (cI, 20, .inl s_xs)), (aYs, .inl (cI, 20, .inl s_ys)), (aTk, .inl (cZ, 20, .inl s_tk)), (aOr, .inl (cI, 20, .inl (upd s_or x4.toNatClampNeg (s_or (x4 - (1 : Int32)).toNatClampNeg))))] := hD
        refine lv_iinc (v := (x4 + (-1))) (lv' := [(4, .int (x4 + (-1))), (0, .ref gP), (1, .int x1)]) hx hb d_P_put_65 hl (k := 2) rfl rfl (by decide) rfl (fun ls hl => ?_)
        refine lv_goto (tgt := 27) hx hb d_P_put_68 (by decide) ?_
        exact ih s_xs s_ys s_tk (upd s_or x4.toNatClampNeg (s_or (x4 - (1 : Int32)).toNatClampNeg)) s_pn x1 (x4 + (-1)) hf _ _ hP hD hS ls (lv_sub hl [1, 2, 0] rfl)
set_option maxHeartbeats 4000000 in
set_option maxRecDepth 100000 in
theorem t_P_put_e {p : Program} {l : Launch} {e : Env} {s : State} {m : MethodId} {args : Array Value} {below : List Frame} {meth : Method} {c : Code} {dC : Nat → ClassId} {dI : Nat → Nat → Nat} {cI cZ : ClassId} {gP aXs aYs aTk aOr : Nat} {s_xs' : Nat → Int32} {s_ys' : Nat → Int32} {s_tk' : Nat → Int32} {s_or' : Nat → Int32} {s_pn' : Int32} {A : Nat → Prop} (C0 : cx p s m args meth c b_P_put none 5 R_P) (hK : gK dC dI cI cZ s) (hA : ∀ q, s.heap.size ≤ q → A q) : ∀ (s_xs : Nat → Int32) (s_ys : Nat → Int32) (s_tk : Nat → Int32) (s_or : Nat → Int32) (s_pn : Int32) (x1 : Int32) (x2 : Int32) (x3 : Int32), f_P_put s_xs s_ys s_tk s_or s_pn x1 x2 x3 = some (s_xs', s_ys', s_tk', s_or', s_pn') → ∀ (H : Heap) (locs : List Loc), va_P (dC, dI) vwCl [(gP, .inr (1, [.ref aXs, .ref aYs, .ref aTk, .ref aOr, .int s_pn])), (aXs, .inl (cI, 20, .inl s_xs)), (aYs, .inl (cI, 20, .inl s_ys)), (aTk, .inl (cZ, 20, .inl s_tk)), (aOr, .inl (cI, 20, .inl s_or))] H → va_D A [(gP, .inr (1, [.ref aXs, .ref aYs, .ref aTk, .ref aOr, .int s_pn])), (aXs, .inl (cI, 20, .inl s_xs)), (aYs, .inl (cI, 20, .inl s_ys)), (aTk, .inl (cZ, 20, .inl s_tk)), (aOr, .inl (cI, 20, .inl s_or))] → va_S A s.heap H locs → ∀ (ls : Array Slot), lv_has ls 5 [(0, .ref gP), (1, .int x1), (2, .int x2), (3, .int x3)] → W p l e (headSpec w_P_put ({ frames := 1, cells := 0, slots := 0, locals := 22 } : Room)).room s m args below meth c H locs 0 0 (MQ below (QwV dC dI A [(gP, .inr (1, [.ref aXs, .ref aYs, .ref aTk, .ref aOr, .int s_pn'])), (aXs, .inl (cI, 20, .inl s_xs')), (aYs, .inl (cI, 20, .inl s_ys')), (aTk, .inl (cZ, 20, .inl s_tk')), (aOr, .inl (cI, 20, .inl s_or'))]) args s 0 0 A) (F0 m 0 ls []) := by
  obtain ⟨hx, hb, hr, hml, hts, hown, hlocks⟩ := id C0
  intro s_xs s_ys s_tk s_or s_pn x1 x2 x3 hf H locs hP hD hS ls hl
  refine lv_aload_n hx hb d_P_put_0 rfl (lv_at hl 0 rfl) ?_
  refine va_get (D := (dC, dI)) (ci := 1) (v := .ref aXs) (C := R_P) (T := T_P) (N := 5) hx hb hts in_P hown hK.1 hP 0 rfl rfl 0 (by decide) (hts _ bw_21) (fun _ h9 => h9) rfl d_P_put_1 ?_
  refine lv_iload_n hx hb d_P_put_4 rfl (lv_at hl 1 rfl) ?_
  refine lv_iload_n hx hb d_P_put_5 rfl (lv_at hl 2 rfl) ?_
  obtain ⟨hi10, hf⟩ := o_i hf
  refine va_iast (cA := cI) (n := 20) (f := s_xs) hx hb hK.1 hP hD hS 1 0 rfl rfl hi10 d_P_put_6 (fun H locs hP hD hS => ?_)
  have hP : va_P (dC, dI) vwCl [(gP, .inr (1, [.ref aXs, .ref aYs, .ref aTk, .ref aOr, .int s_pn])), (aXs, .inl (cI, 20, .inl (upd s_xs x1.toNatClampNeg x2))), (aYs, .inl (cI, 20, .inl s_ys)), (aTk, .inl (cZ, 20, .inl s_tk)), (aOr, .inl (cI, 20, .inl s_or))] H := hP
  have hD : va_D A [(gP, .inr (1, [.ref aXs, .ref aYs, .ref aTk, .ref aOr, .int s_pn])), (aXs, .inl (cI, 20, .inl (upd s_xs x1.toNatClampNeg x2))), (aYs, .inl (cI, 20, .inl s_ys)), (aTk, .inl (cZ, 20, .inl s_tk)), (aOr, .inl (cI, 20, .inl s_or))] := hD
  refine lv_aload_n hx hb d_P_put_7 rfl (lv_at hl 0 rfl) ?_
  refine va_get (D := (dC, dI)) (ci := 1) (v := .ref aYs) (C := R_P) (T := T_P) (N := 5) hx hb hts in_P hown hK.1 hP 0 rfl rfl 1 (by decide) (hts _ bw_22) (fun _ h9 => h9) rfl d_P_put_8 ?_
  refine lv_iload_n hx hb d_P_put_11 rfl (lv_at hl 1 rfl) ?_
  refine lv_iload_n hx hb d_P_put_12 rfl (lv_at hl 3 rfl) ?_
  obtain ⟨hi11, hf⟩ := o_i hf
  refine va_iast (cA := cI) (n := 20) (f := s_ys) hx hb hK.1 hP hD hS 2 0 rfl rfl hi11 d_P_put_13 (fun H locs hP hD hS => ?_)
  have hP : va_P (dC, dI) vwCl [(gP, .inr (1, [.ref aXs, .ref aYs, .ref aTk, .ref aOr, .int s_pn])), (aXs, .inl (cI, 20, .inl (upd s_xs x1.toNatClampNeg x2))), (aYs, .inl (cI, 20, .inl (upd s_ys x1.toNatClampNeg x3))), (aTk, .inl (cZ, 20, .inl s_tk)), (aOr, .inl (cI, 20, .inl s_or))] H := hP
  have hD : va_D A [(gP, .inr (1, [.ref aXs, .ref aYs, .ref aTk, .ref aOr, .int s_pn])), (aXs, .inl (cI, 20, .inl (upd s_xs x1.toNatClampNeg x2))), (aYs, .inl (cI, 20, .inl (upd s_ys x1.toNatClampNeg x3))), (aTk, .inl (cZ, 20, .inl s_tk)), (aOr, .inl (cI, 20, .inl s_or))] := hD
  refine lv_aload_n hx hb d_P_put_14 rfl (lv_at hl 0 rfl) ?_
  refine va_get (D := (dC, dI)) (ci := 1) (v := .ref aTk) (C := R_P) (T := T_P) (N := 5) hx hb hts in_P hown hK.1 hP 0 rfl rfl 2 (by decide) (hts _ bw_23) (fun _ h9 => h9) rfl d_P_put_15 ?_
  refine lv_iload_n hx hb d_P_put_18 rfl (lv_at hl 1 rfl) ?_
  refine lv_iconst (v := (1 : Int32)) hx hb d_P_put_19 rfl ?_
  obtain ⟨hi12, hf⟩ := o_i hf
  refine va_zast (cA := cZ) (n := 20) (f := s_tk) hx hb hK.1 hP hD hS 3 1 rfl rfl hi12 d_P_put_20 (fun H locs hP hD hS => ?_)
  have hP : va_P (dC, dI) vwCl [(gP, .inr (1, [.ref aXs, .ref aYs, .ref aTk, .ref aOr, .int s_pn])), (aXs, .inl (cI, 20, .inl (upd s_xs x1.toNatClampNeg x2))), (aYs, .inl (cI, 20, .inl (upd s_ys x1.toNatClampNeg x3))), (aTk, .inl (cZ, 20, .inl (upd s_tk x1.toNatClampNeg (1 : Int32)))), (aOr, .inl (cI, 20, .inl s_or))] H := hP
  have hD : va_D A [(gP, .inr (1, [.ref aXs, .ref aYs, .ref aTk, .ref aOr, .int s_pn])), (aXs, .inl (cI, 20, .inl (upd s_xs x1.toNatClampNeg x2))), (aYs, .inl (cI, 20, .inl (upd s_ys x1.toNatClampNeg x3))), (aTk, .inl (cZ, 20, .inl (upd s_tk x1.toNatClampNeg (1 : Int32)))), (aOr, .inl (cI, 20, .inl s_or))] := hD
  refine lv_aload_n hx hb d_P_put_21 rfl (lv_at hl 0 rfl) ?_
  refine va_get (D := (dC, dI)) (ci := 1) (v := .int s_pn) (C := R_P) (T := T_P) (N := 5) hx hb hts in_P hown hK.1 hP 0 rfl rfl 4 (by decide) (hts _ bw_25) (fun _ h9 => h9) rfl d_P_put_22 ?_
  refine lv_istore (lv' := [(4, .int s_pn), (0, .ref gP), (1, .int x1), (2, .int x2), (3, .int x3)]) hx hb d_P_put_25 hl (by decide) rfl (fun ls hl => ?_)
  exact t_P_put_L27 C0 hK hA  600 (upd s_xs x1.toNatClampNeg x2) (upd s_ys x1.toNatClampNeg x3) (upd s_tk x1.toNatClampNeg (1 : Int32)) s_or s_pn x1 s_pn hf _ _ hP hD hS ls (lv_sub hl [1, 2, 0] rfl)
set_option maxHeartbeats 4000000 in
set_option maxRecDepth 100000 in
theorem c_P_put (l : Launch) (dC : Nat → ClassId) (dI : Nat → Nat → Nat) (cI cZ : ClassId) (gP aXs aYs aTk aOr : Nat) (s_xs : Nat → Int32) (s_ys : Nat → Int32) (s_tk : Nat → Int32) (s_or : Nat → Int32) (s_pn : Int32) (x1 : Int32) (x2 : Int32) (x3 : Int32) (s_xs' : Nat → Int32) (s_ys' : Nat → Int32) (s_tk' : Nat → Int32) (s_or' : Nat → Int32) (s_pn' : Int32) (sz : Nat) (hf : f_P_put s_xs s_ys s_tk s_or s_pn x1 x2 x3 = some (s_xs', s_ys', s_tk', s_or', s_pn')) : Met l y_P_put w_P_put ({ frames := 1, cells := 0, slots := 0, locals := 22 } : Room) (PcW dC dI cI cZ [.ref gP, .int x1, .int x2, .int x3] [(gP, .inr (1, [.ref aXs, .ref aYs, .ref aTk, .ref aOr, .int s_pn])), (aXs, .inl (cI, 20, .inl s_xs)), (aYs, .inl (cI, 20, .inl s_ys)), (aTk, .inl (cZ, 20, .inl s_tk)), (aOr, .inl (cI, 20, .inl s_or))] sz) (QwV dC dI (va_A [(gP, .inr (1, [.ref aXs, .ref aYs, .ref aTk, .ref aOr, .int s_pn])), (aXs, .inl (cI, 20, .inl s_xs)), (aYs, .inl (cI, 20, .inl s_ys)), (aTk, .inl (cZ, 20, .inl s_tk)), (aOr, .inl (cI, 20, .inl s_or))] sz) [(gP, .inr (1, [.ref aXs, .ref aYs, .ref aTk, .ref aOr, .int s_pn'])), (aXs, .inl (cI, 20, .inl s_xs')), (aYs, .inl (cI, 20, .inl s_ys')), (aTk, .inl (cZ, 20, .inl s_tk')), (aOr, .inl (cI, 20, .inl s_or'))]) 0 0 (va_A [(gP, .inr (1, [.ref aXs, .ref aYs, .ref aTk, .ref aOr, .int s_pn])), (aXs, .inl (cI, 20, .inl s_xs)), (aYs, .inl (cI, 20, .inl s_ys)), (aTk, .inl (cZ, 20, .inl s_tk)), (aOr, .inl (cI, 20, .inl s_or))] sz) := by
  refine Met.ofW (cc := b_P_put) (maxL := 5) (ret := none) (by decide) rfl ?_
  intro p e s m args below meth c s₁ B hml hv
  obtain ⟨rfl, hsz, hP, hK, hD0⟩ := hv
  have C0 : cx p s m _ meth c b_P_put none 5 R_P := ⟨B.exec, B.bytes, B.returns, hml, fun w hw => atoms_spec (ws := w_P_put) B.pre w (List.mem_cons_of_mem _ hw), findClass_of_methodNamed B.named, B.notSynchronized⟩
  subst hsz
  have hD := hD0.self (sz := s.heap.size)
  generalize hAe : va_A [(gP, .inr (1, [.ref aXs, .ref aYs, .ref aTk, .ref aOr, .int s_pn])), (aXs, .inl (cI, 20, .inl s_xs)), (aYs, .inl (cI, 20, .inl s_ys)), (aTk, .inl (cZ, 20, .inl s_tk)), (aOr, .inl (cI, 20, .inl s_or))] s.heap.size = A at hD ⊢
  have hA : ∀ q : Nat, s.heap.size ≤ q → A q := fun q h => by rw [← hAe]; exact Or.inr h
  have hl := lv_entry ([.ref gP, .int x1, .int x2, .int x3]) (n := 5) (Nat.le_of_ble_eq_true rfl)
  rw [lg_entry_eq]
  generalize (lg_sl ([.ref gP, .int x1, .int x2, .int x3]) ++ List.replicate (5 - (lg_sl ([.ref gP, .int x1, .int x2, .int x3])).length) Slot.unset).toArray = ls at hl ⊢
  have hl : lv_has ls 5 [(0, .ref gP), (1, .int x1), (2, .int x2), (3, .int x3)] := hl
  exact t_P_put_e C0 hK hA s_xs s_ys s_tk s_or s_pn x1 x2 x3 hf _ _ hP hD va_S.rf ls hl
set_option maxHeartbeats 4000000 in
set_option maxRecDepth 100000 in
theorem c_P_has (l : Launch) (dC : Nat → ClassId) (dI : Nat → Nat → Nat) (cI cZ : ClassId) (gP aXs aYs aTk aOr : Nat) (s_tk : Nat → Int32) (s_pn : Int32) (x1 : Int32) (rv : Int32) (hf : f_P_has s_tk x1 = some rv) : Met l y_P_has w_P_has ({ frames := 0, cells := 0, slots := 0, locals := 0 } : Room) (PcR dC dI cI cZ [.ref gP, .int x1] [(gP, .inr (1, [.ref aXs, .ref aYs, .ref aTk, .ref aOr, .int s_pn])), (aTk, .inl (cZ, 20, .inl s_tk))]) (vp_Si (fun r => r = rv)) 0 0 (fun _ => False) := by
  refine Met.ofW (cc := b_P_has) (maxL := 2) (ret := (some .boolean)) (by decide) rfl ?_
  intro p e s m args below meth c s₁ B hml hv
  obtain ⟨rfl, hP, hK⟩ := hv
  have C0 : cx p s m _ meth c b_P_has (some .boolean) 2 R_P := ⟨B.exec, B.bytes, B.returns, hml, fun w hw => atoms_spec (ws := w_P_has) B.pre w (List.mem_cons_of_mem _ hw), findClass_of_methodNamed B.named, B.notSynchronized⟩
  obtain ⟨hx, hb, hr, hml, hts, hown, hlocks⟩ := id C0
  have hl := lv_entry ([.ref gP, .int x1]) (n := 2) (Nat.le_of_ble_eq_true rfl)
  rw [lg_entry_eq]
  generalize (lg_sl ([.ref gP, .int x1]) ++ List.replicate (2 - (lg_sl ([.ref gP, .int x1])).length) Slot.unset).toArray = ls at hl ⊢
  have hl : lv_has ls 2 [(0, .ref gP), (1, .int x1)] := hl
  refine lv_iload_n hx hb d_P_has_0 rfl (lv_at hl 1 rfl) ?_
  refine lv_if_lt (tgt := 23) hx hb d_P_has_1 (by decide) (fun hc1 => ?_) (fun hc1 => ?_)
  · have hf := o_t hf hc1
    refine lv_iconst (v := (0 : Int32)) hx hb d_P_has_23 rfl ?_
    cases hf
    exact rr_z hx hb hr hlocks rfl d_P_has_24
  · have hf := o_f hf hc1
    refine lv_iload_n hx hb d_P_has_4 rfl (lv_at hl 1 rfl) ?_
    refine lv_bipush (v := (20 : Int32)) hx hb d_P_has_5 rfl ?_
    refine lv_icmp_ge (tgt := 23) hx hb d_P_has_7 (by decide) (fun hc2 => ?_) (fun hc2 => ?_)
    · have hf := o_t hf hc2
      refine lv_iconst (v := (0 : Int32)) hx hb d_P_has_23 rfl ?_
      cases hf
      exact rr_z hx hb hr hlocks rfl d_P_has_24
    · have hf := o_f hf hc2
      refine lv_aload_n hx hb d_P_has_10 rfl (lv_at hl 0 rfl) ?_
      refine va_get (D := (dC, dI)) (ci := 1) (v := .ref aTk) (C := R_P) (T := T_P) (N := 5) hx hb hts in_P hown hK.1 hP 0 rfl rfl 2 (by decide) (hts _ bw_23) (fun _ h9 => h9) rfl d_P_has_11 ?_
      refine lv_iload_n hx hb d_P_has_14 rfl (lv_at hl 1 rfl) ?_
      obtain ⟨hi3, hf⟩ := o_i hf
      refine va_zald (cA := cZ) (n := 20) (f := s_tk) hx hb hK.1 hP 1 1 rfl rfl hi3 d_P_has_15 ?_
      refine lv_if_eq (tgt := 23) hx hb d_P_has_16 (by decide) (fun hc4 => ?_) (fun hc4 => ?_)
      · have hf := o_t hf hc4
        refine lv_iconst (v := (0 : Int32)) hx hb d_P_has_23 rfl ?_
        cases hf
        exact rr_z hx hb hr hlocks rfl d_P_has_24
      · have hf := o_f hf hc4
        refine lv_iconst (v := (1 : Int32)) hx hb d_P_has_19 rfl ?_
        refine lv_goto (tgt := 24) hx hb d_P_has_20 (by decide) ?_
        cases hf
        exact rr_z hx hb hr hlocks rfl d_P_has_24
set_option maxHeartbeats 4000000 in
set_option maxRecDepth 100000 in
theorem t_P_drop_L11 {p : Program} {l : Launch} {e : Env} {s : State} {m : MethodId} {args : Array Value} {below : List Frame} {meth : Method} {c : Code} {dC : Nat → ClassId} {dI : Nat → Nat → Nat} {cI cZ : ClassId} {gP aXs aYs aTk aOr : Nat} {s_tk' : Nat → Int32} {s_or' : Nat → Int32} {s_pn' : Int32} {A : Nat → Prop} (C0 : cx p s m args meth c b_P_drop none 4 R_P) (hK : gK dC dI cI cZ s) (hA : ∀ q, s.heap.size ≤ q → A q) : ∀ (n : Nat) (s_tk : Nat → Int32) (s_or : Nat → Int32) (s_pn : Int32) (x1 : Int32) (x2 : Int32) (x3 : Int32), f_P_drop_L11  n s_tk s_or s_pn x1 x2 x3 = some (s_tk', s_or', s_pn') → ∀ (H : Heap) (locs : List Loc), va_P (dC, dI) vwCl [(gP, .inr (1, [.ref aXs, .ref aYs, .ref aTk, .ref aOr, .int s_pn])), (aTk, .inl (cZ, 20, .inl s_tk)), (aOr, .inl (cI, 20, .inl s_or))] H → va_D A [(gP, .inr (1, [.ref aXs, .ref aYs, .ref aTk, .ref aOr, .int s_pn])), (aTk, .inl (cZ, 20, .inl s_tk)), (aOr, .inl (cI, 20, .inl s_or))] → va_S A s.heap H locs → ∀ (ls : Array Slot), lv_has ls 4 [(0, .ref gP), (1, .int x1), (2, .int x2), (3, .int x3)] → W p l e (headSpec w_P_drop ({ frames := 0, cells := 0, slots := 0, locals := 0 } : Room)).room s m args below meth c H locs 0 0 (MQ below (QwV dC dI A [(gP, .inr (1, [.ref aXs, .ref aYs, .ref aTk, .ref aOr, .int s_pn'])), (aTk, .inl (cZ, 20, .inl s_tk')), (aOr, .inl (cI, 20, .inl s_or'))]) args s 0 0 A) (F0 m 11 ls []) := by
  obtain ⟨hx, hb, hr, hml, hts, hown, hlocks⟩ := id C0
  intro n
  induction n with
  | zero =>
    intro s_tk s_or s_pn x1 x2 x3 hf
    exact (o_n hf).elim
  | succ n ih =>
    intro s_tk s_or s_pn x1 x2 x3 hf H locs hP hD hS ls hl
    refine lv_iload_n hx hb d_P_drop_11 rfl (lv_at hl 3 rfl) ?_
    refine lv_aload_n hx hb d_P_drop_12 rfl (lv_at hl 0 rfl) ?_
    refine va_get (D := (dC, dI)) (ci := 1) (v := .int s_pn) (C := R_P) (T := T_P) (N := 5) hx hb hts in_P hown hK.1 hP 0 rfl rfl 4 (by decide) (hts _ bw_25) (fun _ h9 => h9) rfl d_P_drop_13 ?_
    refine lv_icmp_ge (tgt := 50) hx hb d_P_drop_16 (by decide) (fun hc1 => ?_) (fun hc1 => ?_)
    · have hf := o_t hf hc1
      refine lv_aload_n hx hb d_P_drop_50 rfl (lv_at hl 0 rfl) ?_
      refine lv_iload_n hx hb d_P_drop_51 rfl (lv_at hl 2 rfl) ?_
      refine va_put (D := (dC, dI)) (ci := 1) (v := .int x2) (ty := .int) (C := R_P) (T := T_P) (N := 5) hx hb hts in_P ty_P tok_P nok_P hown hK.1 hP hD hS 0 rfl rfl 4 (by decide) (hts _ bw_25) (fun _ h9 => h9) rfl (by decide +kernel) rfl rfl (Nat.le_of_ble_eq_true rfl) d_P_drop_52 (fun H locs hP hD hS => ?_)
      have hP : va_P (dC, dI) vwCl [(gP, .inr (1, [.ref aXs, .ref aYs, .ref aTk, .ref aOr, .int x2])), (aTk, .inl (cZ, 20, .inl s_tk)), (aOr, .inl (cI, 20, .inl s_or))] H := hP
      have hD : va_D A [(gP, .inr (1, [.ref aXs, .ref aYs, .ref aTk, .ref aOr, .int x2])), (aTk, .inl (cZ, 20, .inl s_tk)), (aOr, .inl (cI, 20, .inl s_or))] := hD
      cases hf
      exact wr_v hx hb hr hlocks hP hD hS d_P_drop_55
    · have hf := o_f hf hc1
      refine lv_aload_n hx hb d_P_drop_19 rfl (lv_at hl 0 rfl) ?_
      refine va_get (D := (dC, dI)) (ci := 1) (v := .ref aOr) (C := R_P) (T := T_P) (N := 5) hx hb hts in_P hown hK.1 hP 0 rfl rfl 3 (by decide) (hts _ bw_24) (fun _ h9 => h9) rfl d_P_drop_20 ?_
      refine lv_iload_n hx hb d_P_drop_23 rfl (lv_at hl 3 rfl) ?_
      obtain ⟨hi2, hf⟩ := o_i hf
      refine va_iald (cA := cI) (n := 20) (f := s_or) hx hb hK.1 hP 2 0 rfl rfl hi2 d_P_drop_24 ?_
      refine lv_iload_n hx hb d_P_drop_25 rfl (lv_at hl 1 rfl) ?_
      refine lv_icmp_eq (tgt := 44) hx hb d_P_drop_26 (by decide) (fun hc3 => ?_) (fun hc3 => ?_)
      · have hf := o_t hf hc3
        refine lv_iinc (v := (x3 + 1)) (lv' := [(3, .int (x3 + 1)), (0, .ref gP), (1, .int x1), (2, .int x2)]) hx hb d_P_drop_44 hl (k := 3) rfl rfl (by decide) rfl (fun ls hl => ?_)
        refine lv_goto (tgt := 11) hx hb d_P_drop_47 (by decide) ?_
        exact ih s_tk s_or s_pn x1 x2 (x3 + 1) hf _ _ hP hD hS ls (lv_sub hl [1, 2, 3, 0] rfl)
      · have hf := o_f hf hc3
        refine lv_aload_n hx hb d_P_drop_29 rfl (lv_at hl 0 rfl) ?_
        refine va_get (D := (dC, dI)) (ci := 1) (v := .ref aOr) (C := R_P) (T := T_P) (N := 5) hx hb hts in_P hown hK.1 hP 0 rfl rfl 3 (by decide) (hts _ bw_24) (fun _ h9 => h9) rfl d_P_drop_30 ?_
        refine lv_iload_n hx hb d_P_drop_33 rfl (lv_at hl 2 rfl) ?_
        refine lv_aload_n hx hb d_P_drop_34 rfl (lv_at hl 0 rfl) ?_
        refine va_get (D := (dC, dI)) (ci := 1) (v := .ref aOr) (C := R_P) (T := T_P) (N := 5) hx hb hts in_P hown hK.1 hP 0 rfl rfl 3 (by decide) (hts _ bw_24) (fun _ h9 => h9) rfl d_P_drop_35 ?_
        refine lv_iload_n hx hb d_P_drop_38 rfl (lv_at hl 3 rfl) ?_
        obtain ⟨hi4, hf⟩ := o_i hf
        refine va_iald (cA := cI) (n := 20) (f := s_or) hx hb hK.1 hP 2 0 rfl rfl hi4 d_P_drop_39 ?_
        obtain ⟨hi5, hf⟩ := o_i hf
        refine va_iast (cA := cI) (n := 20) (f := s_or) hx hb hK.1 hP hD hS 2 0 rfl rfl hi5 d_P_drop_40 (fun H locs hP hD hS => ?_)
        have hP : va_P (dC, dI) vwCl [(gP, .inr (1, [.ref aXs, .ref aYs, .ref aTk, .ref aOr, .int s_pn])), (aTk, .inl (cZ, 20, .inl s_tk)), (aOr, .inl (cI, 20, .inl (upd s_or x2.toNatClampNeg (s_or x3.toNatClampNeg))))] H := hP
        have hD : va_D A [(gP, .inr (1, [.ref aXs, .ref aYs, .ref aTk, .ref aOr, .int s_pn])), (aTk, .inl (cZ, 20, .inl s_tk)), (aOr, .inl (cI, 20, .inl (upd s_or x2.toNatClampNeg (s_or x3.toNatClampNeg))))] := hD
        refine lv_iinc (v := (x2 + 1)) (lv' := [(2, .int (x2 + 1)), (0, .ref gP), (1, .int x1), (3, .int x3)]) hx hb d_P_drop_41 hl (k := 2) rfl rfl (by decide) rfl (fun ls hl => ?_)
        refine lv_iinc (v := (x3 + 1)) (lv' := [(3, .int (x3 + 1)), (2, .int (x2 + 1)), (0, .ref gP), (1, .int x1)]) hx hb d_P_drop_44 hl (k := 3) rfl rfl (by decide) rfl (fun ls hl => ?_)
        refine lv_goto (tgt := 11) hx hb d_P_drop_47 (by decide) ?_
        exact ih s_tk (upd s_or x2.toNatClampNeg (s_or x3.toNatClampNeg)) s_pn x1 (x2 + 1) (x3 + 1) hf _ _ hP hD hS ls (lv_sub hl [2, 3, 1, 0] rfl)
set_option maxHeartbeats 4000000 in
set_option maxRecDepth 100000 in
theorem t_P_drop_e {p : Program} {l : Launch} {e : Env} {s : State} {m : MethodId} {args : Array Value} {below : List Frame} {meth : Method} {c : Code} {dC : Nat → ClassId} {dI : Nat → Nat → Nat} {cI cZ : ClassId} {gP aXs aYs aTk aOr : Nat} {s_tk' : Nat → Int32} {s_or' : Nat → Int32} {s_pn' : Int32} {A : Nat → Prop} (C0 : cx p s m args meth c b_P_drop none 4 R_P) (hK : gK dC dI cI cZ s) (hA : ∀ q, s.heap.size ≤ q → A q) : ∀ (s_tk : Nat → Int32) (s_or : Nat → Int32) (s_pn : Int32) (x1 : Int32), f_P_drop s_tk s_or s_pn x1 = some (s_tk', s_or', s_pn') → ∀ (H : Heap) (locs : List Loc), va_P (dC, dI) vwCl [(gP, .inr (1, [.ref aXs, .ref aYs, .ref aTk, .ref aOr, .int s_pn])), (aTk, .inl (cZ, 20, .inl s_tk)), (aOr, .inl (cI, 20, .inl s_or))] H → va_D A [(gP, .inr (1, [.ref aXs, .ref aYs, .ref aTk, .ref aOr, .int s_pn])), (aTk, .inl (cZ, 20, .inl s_tk)), (aOr, .inl (cI, 20, .inl s_or))] → va_S A s.heap H locs → ∀ (ls : Array Slot), lv_has ls 4 [(0, .ref gP), (1, .int x1)] → W p l e (headSpec w_P_drop ({ frames := 0, cells := 0, slots := 0, locals := 0 } : Room)).room s m args below meth c H locs 0 0 (MQ below (QwV dC dI A [(gP, .inr (1, [.ref aXs, .ref aYs, .ref aTk, .ref aOr, .int s_pn'])), (aTk, .inl (cZ, 20, .inl s_tk')), (aOr, .inl (cI, 20, .inl s_or'))]) args s 0 0 A) (F0 m 0 ls []) := by
  obtain ⟨hx, hb, hr, hml, hts, hown, hlocks⟩ := id C0
  intro s_tk s_or s_pn x1 hf H locs hP hD hS ls hl
  refine lv_aload_n hx hb d_P_drop_0 rfl (lv_at hl 0 rfl) ?_
  refine va_get (D := (dC, dI)) (ci := 1) (v := .ref aTk) (C := R_P) (T := T_P) (N := 5) hx hb hts in_P hown hK.1 hP 0 rfl rfl 2 (by decide) (hts _ bw_23) (fun _ h9 => h9) rfl d_P_drop_1 ?_
  refine lv_iload_n hx hb d_P_drop_4 rfl (lv_at hl 1 rfl) ?_
  refine lv_iconst (v := (0 : Int32)) hx hb d_P_drop_5 rfl ?_
  obtain ⟨hi6, hf⟩ := o_i hf
  refine va_zast (cA := cZ) (n := 20) (f := s_tk) hx hb hK.1 hP hD hS 1 1 rfl rfl hi6 d_P_drop_6 (fun H locs hP hD hS => ?_)
  have hP : va_P (dC, dI) vwCl [(gP, .inr (1, [.ref aXs, .ref aYs, .ref aTk, .ref aOr, .int s_pn])), (aTk, .inl (cZ, 20, .inl (upd s_tk x1.toNatClampNeg (0 : Int32)))), (aOr, .inl (cI, 20, .inl s_or))] H := hP
  have hD : va_D A [(gP, .inr (1, [.ref aXs, .ref aYs, .ref aTk, .ref aOr, .int s_pn])), (aTk, .inl (cZ, 20, .inl (upd s_tk x1.toNatClampNeg (0 : Int32)))), (aOr, .inl (cI, 20, .inl s_or))] := hD
  refine lv_iconst (v := (0 : Int32)) hx hb d_P_drop_7 rfl ?_
  refine lv_istore_n (lv' := [(2, .int (0 : Int32)), (0, .ref gP), (1, .int x1)]) hx hb d_P_drop_8 rfl hl (by decide) rfl (fun ls hl => ?_)
  refine lv_iconst (v := (0 : Int32)) hx hb d_P_drop_9 rfl ?_
  refine lv_istore_n (lv' := [(3, .int (0 : Int32)), (2, .int (0 : Int32)), (0, .ref gP), (1, .int x1)]) hx hb d_P_drop_10 rfl hl (by decide) rfl (fun ls hl => ?_)
  exact t_P_drop_L11 C0 hK hA  600 (upd s_tk x1.toNatClampNeg (0 : Int32)) s_or s_pn x1 (0 : Int32) (0 : Int32) hf _ _ hP hD hS ls (lv_sub hl [2, 3, 1, 0] rfl)
set_option maxHeartbeats 4000000 in
set_option maxRecDepth 100000 in
theorem c_P_drop (l : Launch) (dC : Nat → ClassId) (dI : Nat → Nat → Nat) (cI cZ : ClassId) (gP aXs aYs aTk aOr : Nat) (s_tk : Nat → Int32) (s_or : Nat → Int32) (s_pn : Int32) (x1 : Int32) (s_tk' : Nat → Int32) (s_or' : Nat → Int32) (s_pn' : Int32) (sz : Nat) (hf : f_P_drop s_tk s_or s_pn x1 = some (s_tk', s_or', s_pn')) : Met l y_P_drop w_P_drop ({ frames := 0, cells := 0, slots := 0, locals := 0 } : Room) (PcW dC dI cI cZ [.ref gP, .int x1] [(gP, .inr (1, [.ref aXs, .ref aYs, .ref aTk, .ref aOr, .int s_pn])), (aTk, .inl (cZ, 20, .inl s_tk)), (aOr, .inl (cI, 20, .inl s_or))] sz) (QwV dC dI (va_A [(gP, .inr (1, [.ref aXs, .ref aYs, .ref aTk, .ref aOr, .int s_pn])), (aTk, .inl (cZ, 20, .inl s_tk)), (aOr, .inl (cI, 20, .inl s_or))] sz) [(gP, .inr (1, [.ref aXs, .ref aYs, .ref aTk, .ref aOr, .int s_pn'])), (aTk, .inl (cZ, 20, .inl s_tk')), (aOr, .inl (cI, 20, .inl s_or'))]) 0 0 (va_A [(gP, .inr (1, [.ref aXs, .ref aYs, .ref aTk, .ref aOr, .int s_pn])), (aTk, .inl (cZ, 20, .inl s_tk)), (aOr, .inl (cI, 20, .inl s_or))] sz) := by
  refine Met.ofW (cc := b_P_drop) (maxL := 4) (ret := none) (by decide) rfl ?_
  intro p e s m args below meth c s₁ B hml hv
  obtain ⟨rfl, hsz, hP, hK, hD0⟩ := hv
  have C0 : cx p s m _ meth c b_P_drop none 4 R_P := ⟨B.exec, B.bytes, B.returns, hml, fun w hw => atoms_spec (ws := w_P_drop) B.pre w (List.mem_cons_of_mem _ hw), findClass_of_methodNamed B.named, B.notSynchronized⟩
  subst hsz
  have hD := hD0.self (sz := s.heap.size)
  generalize hAe : va_A [(gP, .inr (1, [.ref aXs, .ref aYs, .ref aTk, .ref aOr, .int s_pn])), (aTk, .inl (cZ, 20, .inl s_tk)), (aOr, .inl (cI, 20, .inl s_or))] s.heap.size = A at hD ⊢
  have hA : ∀ q : Nat, s.heap.size ≤ q → A q := fun q h => by rw [← hAe]; exact Or.inr h
  have hl := lv_entry ([.ref gP, .int x1]) (n := 4) (Nat.le_of_ble_eq_true rfl)
  rw [lg_entry_eq]
  generalize (lg_sl ([.ref gP, .int x1]) ++ List.replicate (4 - (lg_sl ([.ref gP, .int x1])).length) Slot.unset).toArray = ls at hl ⊢
  have hl : lv_has ls 4 [(0, .ref gP), (1, .int x1)] := hl
  exact t_P_drop_e C0 hK hA s_tk s_or s_pn x1 hf _ _ hP hD va_S.rf ls hl
set_option maxHeartbeats 4000000 in
set_option maxRecDepth 100000 in
theorem c_P_size (l : Launch) (dC : Nat → ClassId) (dI : Nat → Nat → Nat) (cI cZ : ClassId) (gP aXs aYs aTk aOr : Nat) (s_pn : Int32) (rv : Int32) (hf : f_P_size s_pn = some rv) : Met l y_P_size w_P_size ({ frames := 0, cells := 0, slots := 0, locals := 0 } : Room) (PcR dC dI cI cZ [.ref gP] [(gP, .inr (1, [.ref aXs, .ref aYs, .ref aTk, .ref aOr, .int s_pn]))]) (vp_Si (fun r => r = rv)) 0 0 (fun _ => False) := by
  refine Met.ofW (cc := b_P_size) (maxL := 1) (ret := (some .int)) (by decide) rfl ?_
  intro p e s m args below meth c s₁ B hml hv
  obtain ⟨rfl, hP, hK⟩ := hv
  have C0 : cx p s m _ meth c b_P_size (some .int) 1 R_P := ⟨B.exec, B.bytes, B.returns, hml, fun w hw => atoms_spec (ws := w_P_size) B.pre w (List.mem_cons_of_mem _ hw), findClass_of_methodNamed B.named, B.notSynchronized⟩
  obtain ⟨hx, hb, hr, hml, hts, hown, hlocks⟩ := id C0
  have hl := lv_entry ([.ref gP]) (n := 1) (Nat.le_of_ble_eq_true rfl)
  rw [lg_entry_eq]
  generalize (lg_sl ([.ref gP]) ++ List.replicate (1 - (lg_sl ([.ref gP])).length) Slot.unset).toArray = ls at hl ⊢
  have hl : lv_has ls 1 [(0, .ref gP)] := hl
  refine lv_aload_n hx hb d_P_size_0 rfl (lv_at hl 0 rfl) ?_
  refine va_get (D := (dC, dI)) (ci := 1) (v := .int s_pn) (C := R_P) (T := T_P) (N := 5) hx hb hts in_P hown hK.1 hP 0 rfl rfl 4 (by decide) (hts _ bw_25) (fun _ h9 => h9) rfl d_P_size_1 ?_
  cases hf
  exact rr_i hx hb hr hlocks d_P_size_4
set_option maxHeartbeats 4000000 in
set_option maxRecDepth 100000 in
theorem c_P_x (l : Launch) (dC : Nat → ClassId) (dI : Nat → Nat → Nat) (cI cZ : ClassId) (gP aXs aYs aTk aOr : Nat) (s_xs : Nat → Int32) (s_pn : Int32) (x1 : Int32) (rv : Int32) (hf : f_P_x s_xs x1 = some rv) : Met l y_P_x w_P_x ({ frames := 0, cells := 0, slots := 0, locals := 0 } : Room) (PcR dC dI cI cZ [.ref gP, .int x1] [(gP, .inr (1, [.ref aXs, .ref aYs, .ref aTk, .ref aOr, .int s_pn])), (aXs, .inl (cI, 20, .inl s_xs))]) (vp_Si (fun r => r = rv)) 0 0 (fun _ => False) := by
  refine Met.ofW (cc := b_P_x) (maxL := 2) (ret := (some .int)) (by decide) rfl ?_
  intro p e s m args below meth c s₁ B hml hv
  obtain ⟨rfl, hP, hK⟩ := hv
  have C0 : cx p s m _ meth c b_P_x (some .int) 2 R_P := ⟨B.exec, B.bytes, B.returns, hml, fun w hw => atoms_spec (ws := w_P_x) B.pre w (List.mem_cons_of_mem _ hw), findClass_of_methodNamed B.named, B.notSynchronized⟩
  obtain ⟨hx, hb, hr, hml, hts, hown, hlocks⟩ := id C0
  have hl := lv_entry ([.ref gP, .int x1]) (n := 2) (Nat.le_of_ble_eq_true rfl)
  rw [lg_entry_eq]
  generalize (lg_sl ([.ref gP, .int x1]) ++ List.replicate (2 - (lg_sl ([.ref gP, .int x1])).length) Slot.unset).toArray = ls at hl ⊢
  have hl : lv_has ls 2 [(0, .ref gP), (1, .int x1)] := hl
  refine lv_aload_n hx hb d_P_x_0 rfl (lv_at hl 0 rfl) ?_
  refine va_get (D := (dC, dI)) (ci := 1) (v := .ref aXs) (C := R_P) (T := T_P) (N := 5) hx hb hts in_P hown hK.1 hP 0 rfl rfl 0 (by decide) (hts _ bw_21) (fun _ h9 => h9) rfl d_P_x_1 ?_
  refine lv_iload_n hx hb d_P_x_4 rfl (lv_at hl 1 rfl) ?_
  obtain ⟨hi1, hf⟩ := o_i hf
  refine va_iald (cA := cI) (n := 20) (f := s_xs) hx hb hK.1 hP 1 0 rfl rfl hi1 d_P_x_5 ?_
  cases hf
  exact rr_i hx hb hr hlocks d_P_x_6
set_option maxHeartbeats 4000000 in
set_option maxRecDepth 100000 in
theorem c_P_y (l : Launch) (dC : Nat → ClassId) (dI : Nat → Nat → Nat) (cI cZ : ClassId) (gP aXs aYs aTk aOr : Nat) (s_ys : Nat → Int32) (s_pn : Int32) (x1 : Int32) (rv : Int32) (hf : f_P_y s_ys x1 = some rv) : Met l y_P_y w_P_y ({ frames := 0, cells := 0, slots := 0, locals := 0 } : Room) (PcR dC dI cI cZ [.ref gP, .int x1] [(gP, .inr (1, [.ref aXs, .ref aYs, .ref aTk, .ref aOr, .int s_pn])), (aYs, .inl (cI, 20, .inl s_ys))]) (vp_Si (fun r => r = rv)) 0 0 (fun _ => False) := by
  refine Met.ofW (cc := b_P_y) (maxL := 2) (ret := (some .int)) (by decide) rfl ?_
  intro p e s m args below meth c s₁ B hml hv
  obtain ⟨rfl, hP, hK⟩ := hv
  have C0 : cx p s m _ meth c b_P_y (some .int) 2 R_P := ⟨B.exec, B.bytes, B.returns, hml, fun w hw => atoms_spec (ws := w_P_y) B.pre w (List.mem_cons_of_mem _ hw), findClass_of_methodNamed B.named, B.notSynchronized⟩
  obtain ⟨hx, hb, hr, hml, hts, hown, hlocks⟩ := id C0
  have hl := lv_entry ([.ref gP, .int x1]) (n := 2) (Nat.le_of_ble_eq_true rfl)
  rw [lg_entry_eq]
  generalize (lg_sl ([.ref gP, .int x1]) ++ List.replicate (2 - (lg_sl ([.ref gP, .int x1])).length) Slot.unset).toArray = ls at hl ⊢
  have hl : lv_has ls 2 [(0, .ref gP), (1, .int x1)] := hl
  refine lv_aload_n hx hb d_P_y_0 rfl (lv_at hl 0 rfl) ?_
  refine va_get (D := (dC, dI)) (ci := 1) (v := .ref aYs) (C := R_P) (T := T_P) (N := 5) hx hb hts in_P hown hK.1 hP 0 rfl rfl 1 (by decide) (hts _ bw_22) (fun _ h9 => h9) rfl d_P_y_1 ?_
  refine lv_iload_n hx hb d_P_y_4 rfl (lv_at hl 1 rfl) ?_
  obtain ⟨hi1, hf⟩ := o_i hf
  refine va_iald (cA := cI) (n := 20) (f := s_ys) hx hb hK.1 hP 1 0 rfl rfl hi1 d_P_y_5 ?_
  cases hf
  exact rr_i hx hb hr hlocks d_P_y_6
set_option maxHeartbeats 4000000 in
set_option maxRecDepth 100000 in
theorem c_P_inOrder (l : Launch) (dC : Nat → ClassId) (dI : Nat → Nat → Nat) (cI cZ : ClassId) (gP aXs aYs aTk aOr : Nat) (s_or : Nat → Int32) (s_pn : Int32) (x1 : Int32) (rv : Int32) (hf : f_P_inOrder s_or x1 = some rv) : Met l y_P_inOrder w_P_inOrder ({ frames := 0, cells := 0, slots := 0, locals := 0 } : Room) (PcR dC dI cI cZ [.ref gP, .int x1] [(gP, .inr (1, [.ref aXs, .ref aYs, .ref aTk, .ref aOr, .int s_pn])), (aOr, .inl (cI, 20, .inl s_or))]) (vp_Si (fun r => r = rv)) 0 0 (fun _ => False) := by
  refine Met.ofW (cc := b_P_inOrder) (maxL := 2) (ret := (some .int)) (by decide) rfl ?_
  intro p e s m args below meth c s₁ B hml hv
  obtain ⟨rfl, hP, hK⟩ := hv
  have C0 : cx p s m _ meth c b_P_inOrder (some .int) 2 R_P := ⟨B.exec, B.bytes, B.returns, hml, fun w hw => atoms_spec (ws := w_P_inOrder) B.pre w (List.mem_cons_of_mem _ hw), findClass_of_methodNamed B.named, B.notSynchronized⟩
  obtain ⟨hx, hb, hr, hml, hts, hown, hlocks⟩ := id C0
  have hl := lv_entry ([.ref gP, .int x1]) (n := 2) (Nat.le_of_ble_eq_true rfl)
  rw [lg_entry_eq]
  generalize (lg_sl ([.ref gP, .int x1]) ++ List.replicate (2 - (lg_sl ([.ref gP, .int x1])).length) Slot.unset).toArray = ls at hl ⊢
  have hl : lv_has ls 2 [(0, .ref gP), (1, .int x1)] := hl
  refine lv_aload_n hx hb d_P_inOrder_0 rfl (lv_at hl 0 rfl) ?_
  refine va_get (D := (dC, dI)) (ci := 1) (v := .ref aOr) (C := R_P) (T := T_P) (N := 5) hx hb hts in_P hown hK.1 hP 0 rfl rfl 3 (by decide) (hts _ bw_24) (fun _ h9 => h9) rfl d_P_inOrder_1 ?_
  refine lv_iload_n hx hb d_P_inOrder_4 rfl (lv_at hl 1 rfl) ?_
  obtain ⟨hi1, hf⟩ := o_i hf
  refine va_iald (cA := cI) (n := 20) (f := s_or) hx hb hK.1 hP 1 0 rfl rfl hi1 d_P_inOrder_5 ?_
  cases hf
  exact rr_i hx hb hr hlocks d_P_inOrder_6
set_option maxHeartbeats 4000000 in
set_option maxRecDepth 100000 in
theorem c_P_crossTo (l : Launch) (dC : Nat → ClassId) (dI : Nat → Nat → Nat) (cI cZ : ClassId) (gP aXs aYs aTk aOr : Nat) (s_xs : Nat → Int32) (s_ys : Nat → Int32) (s_pn : Int32) (x1 : Int32) (x2 : Int32) (x3 : Int32) (x4 : Int32) (rv : Int64) (hf : f_P_crossTo s_xs s_ys x1 x2 x3 x4 = some rv) : Met l y_P_crossTo w_P_crossTo ({ frames := 0, cells := 0, slots := 0, locals := 0 } : Room) (PcR dC dI cI cZ [.ref gP, .int x1, .int x2, .int x3, .int x4] [(gP, .inr (1, [.ref aXs, .ref aYs, .ref aTk, .ref aOr, .int s_pn])), (aXs, .inl (cI, 20, .inl s_xs)), (aYs, .inl (cI, 20, .inl s_ys))]) (vp_Sl (fun r => r = rv)) 0 0 (fun _ => False) := by
  refine Met.ofW (cc := b_P_crossTo) (maxL := 13) (ret := (some .long)) (by decide) rfl ?_
  intro p e s m args below meth c s₁ B hml hv
  obtain ⟨rfl, hP, hK⟩ := hv
  have C0 : cx p s m _ meth c b_P_crossTo (some .long) 13 R_P := ⟨B.exec, B.bytes, B.returns, hml, fun w hw => atoms_spec (ws := w_P_crossTo) B.pre w (List.mem_cons_of_mem _ hw), findClass_of_methodNamed B.named, B.notSynchronized⟩
  obtain ⟨hx, hb, hr, hml, hts, hown, hlocks⟩ := id C0
  have hl := lv_entry ([.ref gP, .int x1, .int x2, .int x3, .int x4]) (n := 13) (Nat.le_of_ble_eq_true rfl)
  rw [lg_entry_eq]
  generalize (lg_sl ([.ref gP, .int x1, .int x2, .int x3, .int x4]) ++ List.replicate (13 - (lg_sl ([.ref gP, .int x1, .int x2, .int x3, .int x4])).length) Slot.unset).toArray = ls at hl ⊢
  have hl : lv_has ls 13 [(0, .ref gP), (1, .int x1), (2, .int x2), (3, .int x3), (4, .int x4)] := hl
  refine lv_aload_n hx hb d_P_crossTo_0 rfl (lv_at hl 0 rfl) ?_
  refine va_get (D := (dC, dI)) (ci := 1) (v := .ref aXs) (C := R_P) (T := T_P) (N := 5) hx hb hts in_P hown hK.1 hP 0 rfl rfl 0 (by decide) (hts _ bw_21) (fun _ h9 => h9) rfl d_P_crossTo_1 ?_
  refine lv_iload_n hx hb d_P_crossTo_4 rfl (lv_at hl 2 rfl) ?_
  obtain ⟨hi1, hf⟩ := o_i hf
  refine va_iald (cA := cI) (n := 20) (f := s_xs) hx hb hK.1 hP 1 0 rfl rfl hi1 d_P_crossTo_5 ?_
  refine lv_aload_n hx hb d_P_crossTo_6 rfl (lv_at hl 0 rfl) ?_
  refine va_get (D := (dC, dI)) (ci := 1) (v := .ref aXs) (C := R_P) (T := T_P) (N := 5) hx hb hts in_P hown hK.1 hP 0 rfl rfl 0 (by decide) (hts _ bw_21) (fun _ h9 => h9) rfl d_P_crossTo_7 ?_
  refine lv_iload_n hx hb d_P_crossTo_10 rfl (lv_at hl 1 rfl) ?_
  obtain ⟨hi2, hf⟩ := o_i hf
  refine va_iald (cA := cI) (n := 20) (f := s_xs) hx hb hK.1 hP 1 0 rfl rfl hi2 d_P_crossTo_11 ?_
  refine lv_isub hx hb d_P_crossTo_12 ?_
  refine lv_i2l hx hb d_P_crossTo_13 rfl ?_
  refine lv_lstore (lv' := [(5, .long ((s_xs x2.toNatClampNeg) - (s_xs x1.toNatClampNeg)).toInt64), (0, .ref gP), (1, .int x1), (2, .int x2), (3, .int x3), (4, .int x4)]) hx hb d_P_crossTo_14 hl (by decide) rfl (fun ls hl => ?_)
  refine lv_aload_n hx hb d_P_crossTo_16 rfl (lv_at hl 1 rfl) ?_
  refine va_get (D := (dC, dI)) (ci := 1) (v := .ref aYs) (C := R_P) (T := T_P) (N := 5) hx hb hts in_P hown hK.1 hP 0 rfl rfl 1 (by decide) (hts _ bw_22) (fun _ h9 => h9) rfl d_P_crossTo_17 ?_
  refine lv_iload_n hx hb d_P_crossTo_20 rfl (lv_at hl 3 rfl) ?_
  obtain ⟨hi3, hf⟩ := o_i hf
  refine va_iald (cA := cI) (n := 20) (f := s_ys) hx hb hK.1 hP 2 0 rfl rfl hi3 d_P_crossTo_21 ?_
  refine lv_aload_n hx hb d_P_crossTo_22 rfl (lv_at hl 1 rfl) ?_
  refine va_get (D := (dC, dI)) (ci := 1) (v := .ref aYs) (C := R_P) (T := T_P) (N := 5) hx hb hts in_P hown hK.1 hP 0 rfl rfl 1 (by decide) (hts _ bw_22) (fun _ h9 => h9) rfl d_P_crossTo_23 ?_
  refine lv_iload_n hx hb d_P_crossTo_26 rfl (lv_at hl 2 rfl) ?_
  obtain ⟨hi4, hf⟩ := o_i hf
  refine va_iald (cA := cI) (n := 20) (f := s_ys) hx hb hK.1 hP 2 0 rfl rfl hi4 d_P_crossTo_27 ?_
  refine lv_isub hx hb d_P_crossTo_28 ?_
  refine lv_i2l hx hb d_P_crossTo_29 rfl ?_
  refine lv_lstore (lv' := [(7, .long ((s_ys x2.toNatClampNeg) - (s_ys x1.toNatClampNeg)).toInt64), (5, .long ((s_xs x2.toNatClampNeg) - (s_xs x1.toNatClampNeg)).toInt64), (0, .ref gP), (1, .int x1), (2, .int x2), (3, .int x3), (4, .int x4)]) hx hb d_P_crossTo_30 hl (by decide) rfl (fun ls hl => ?_)
  refine lv_iload_n hx hb d_P_crossTo_32 rfl (lv_at hl 5 rfl) ?_
  refine lv_aload_n hx hb d_P_crossTo_33 rfl (lv_at hl 2 rfl) ?_
  refine va_get (D := (dC, dI)) (ci := 1) (v := .ref aXs) (C := R_P) (T := T_P) (N := 5) hx hb hts in_P hown hK.1 hP 0 rfl rfl 0 (by decide) (hts _ bw_21) (fun _ h9 => h9) rfl d_P_crossTo_34 ?_
  refine lv_iload_n hx hb d_P_crossTo_37 rfl (lv_at hl 3 rfl) ?_
  obtain ⟨hi5, hf⟩ := o_i hf
  refine va_iald (cA := cI) (n := 20) (f := s_xs) hx hb hK.1 hP 1 0 rfl rfl hi5 d_P_crossTo_38 ?_
  refine lv_isub hx hb d_P_crossTo_39 ?_
  refine lv_i2l hx hb d_P_crossTo_40 rfl ?_
  refine lv_lstore (lv' := [(9, .long (x3 - (s_xs x1.toNatClampNeg)).toInt64), (7, .long ((s_ys x2.toNatClampNeg) - (s_ys x1.toNatClampNeg)).toInt64), (5, .long ((s_xs x2.toNatClampNeg) - (s_xs x1.toNatClampNeg)).toInt64), (0, .ref gP), (1, .int x1), (2, .int x2), (3, .int x3), (4, .int x4)]) hx hb d_P_crossTo_41 hl (by decide) rfl (fun ls hl => ?_)
  refine lv_iload hx hb d_P_crossTo_43 (lv_at hl 7 rfl) ?_
  refine lv_aload_n hx hb d_P_crossTo_45 rfl (lv_at hl 3 rfl) ?_
  refine va_get (D := (dC, dI)) (ci := 1) (v := .ref aYs) (C := R_P) (T := T_P) (N := 5) hx hb hts in_P hown hK.1 hP 0 rfl rfl 1 (by decide) (hts _ bw_22) (fun _ h9 => h9) rfl d_P_crossTo_46 ?_
  refine lv_iload_n hx hb d_P_crossTo_49 rfl (lv_at hl 4 rfl) ?_
  obtain ⟨hi6, hf⟩ := o_i hf
  refine va_iald (cA := cI) (n := 20) (f := s_ys) hx hb hK.1 hP 2 0 rfl rfl hi6 d_P_crossTo_50 ?_
  refine lv_isub hx hb d_P_crossTo_51 ?_
  refine lv_i2l hx hb d_P_crossTo_52 rfl ?_
  refine lv_lstore (lv' := [(11, .long (x4 - (s_ys x1.toNatClampNeg)).toInt64), (9, .long (x3 - (s_xs x1.toNatClampNeg)).toInt64), (7, .long ((s_ys x2.toNatClampNeg) - (s_ys x1.toNatClampNeg)).toInt64), (5, .long ((s_xs x2.toNatClampNeg) - (s_xs x1.toNatClampNeg)).toInt64), (0, .ref gP), (1, .int x1), (2, .int x2), (3, .int x3), (4, .int x4)]) hx hb d_P_crossTo_53 hl (by decide) rfl (fun ls hl => ?_)
  refine lv_lload hx hb d_P_crossTo_55 (lv_at hl 3 rfl) ?_
  refine lv_lload hx hb d_P_crossTo_57 (lv_at hl 0 rfl) ?_
  refine lv_lmul hx hb d_P_crossTo_59 ?_
  refine lv_lload hx hb d_P_crossTo_60 (lv_at hl 2 rfl) ?_
  refine lv_lload hx hb d_P_crossTo_62 (lv_at hl 1 rfl) ?_
  refine lv_lmul hx hb d_P_crossTo_64 ?_
  refine lv_lsub hx hb d_P_crossTo_65 ?_
  cases hf
  exact rr_l hx hb hr hlocks d_P_crossTo_66
set_option maxHeartbeats 4000000 in
set_option maxRecDepth 100000 in
theorem c_F_sign (l : Launch) (dC : Nat → ClassId) (dI : Nat → Nat → Nat) (cI cZ : ClassId) (x0 : Int64) (rv : Int32) (hf : f_F_sign x0 = some rv) : Met l y_F_sign w_F_sign ({ frames := 0, cells := 0, slots := 0, locals := 0 } : Room) (PcR dC dI cI cZ [.long x0] []) (vp_Si (fun r => r = rv)) 0 0 (fun _ => False) := by
  refine Met.ofW (cc := b_F_sign) (maxL := 2) (ret := (some .int)) (by decide) rfl ?_
  intro p e s m args below meth c s₁ B hml hv
  obtain ⟨rfl, hP, hK⟩ := hv
  have C0 : cx p s m _ meth c b_F_sign (some .int) 2 R_F := ⟨B.exec, B.bytes, B.returns, hml, fun w hw => atoms_spec (ws := w_F_sign) B.pre w (List.mem_cons_of_mem _ hw), findClass_of_methodNamed B.named, B.notSynchronized⟩
  obtain ⟨hx, hb, hr, hml, hts, hown, hlocks⟩ := id C0
  have hl := lv_entry ([.long x0]) (n := 2) (Nat.le_of_ble_eq_true rfl)
  rw [lg_entry_eq]
  generalize (lg_sl ([.long x0]) ++ List.replicate (2 - (lg_sl ([.long x0])).length) Slot.unset).toArray = ls at hl ⊢
  have hl : lv_has ls 2 [(0, .long x0)] := hl
  refine lv_lload_n hx hb d_F_sign_0 rfl (lv_at hl 0 rfl) ?_
  refine lv_lconst (v := (0 : Int64)) hx hb d_F_sign_1 rfl ?_
  refine W.lcmp hx hb d_F_sign_2 ?_
  refine lv_if_le (tgt := 10) hx hb d_F_sign_3 (by decide) (fun hc1 => ?_) (fun hc1 => ?_)
  · have hf := o_t hf hc1
    refine lv_lload_n hx hb d_F_sign_10 rfl (lv_at hl 0 rfl) ?_
    refine lv_lconst (v := (0 : Int64)) hx hb d_F_sign_11 rfl ?_
    refine W.lcmp hx hb d_F_sign_12 ?_
    refine lv_if_ge (tgt := 20) hx hb d_F_sign_13 (by decide) (fun hc2 => ?_) (fun hc2 => ?_)
    · have hf := o_t hf hc2
      refine lv_iconst (v := (0 : Int32)) hx hb d_F_sign_20 rfl ?_
      cases hf
      exact rr_i hx hb hr hlocks d_F_sign_21
    · have hf := o_f hf hc2
      refine lv_iconst (v := (-1 : Int32)) hx hb d_F_sign_16 rfl ?_
      refine lv_goto (tgt := 21) hx hb d_F_sign_17 (by decide) ?_
      cases hf
      exact rr_i hx hb hr hlocks d_F_sign_21
  · have hf := o_f hf hc1
    refine lv_iconst (v := (1 : Int32)) hx hb d_F_sign_6 rfl ?_
    refine lv_goto (tgt := 21) hx hb d_F_sign_7 (by decide) ?_
    cases hf
    exact rr_i hx hb hr hlocks d_F_sign_21
set_option maxHeartbeats 4000000 in
set_option maxRecDepth 100000 in
theorem c_P_side (l : Launch) (dC : Nat → ClassId) (dI : Nat → Nat → Nat) (cI cZ : ClassId) (gP aXs aYs aTk aOr : Nat) (s_xs : Nat → Int32) (s_ys : Nat → Int32) (s_pn : Int32) (x1 : Int32) (x2 : Int32) (x3 : Int32) (rv : Int32) (hf : f_P_side s_xs s_ys x1 x2 x3 = some rv) : Met l y_P_side w_P_side ({ frames := 1, cells := 0, slots := 0, locals := 32 } : Room) (PcR dC dI cI cZ [.ref gP, .int x1, .int x2, .int x3] [(gP, .inr (1, [.ref aXs, .ref aYs, .ref aTk, .ref aOr, .int s_pn])), (aXs, .inl (cI, 20, .inl s_xs)), (aYs, .inl (cI, 20, .inl s_ys))]) (vp_Si (fun r => r = rv)) 0 0 (fun _ => False) := by
  refine Met.ofW (cc := b_P_side) (maxL := 4) (ret := (some .int)) (by decide) rfl ?_
  intro p e s m args below meth c s₁ B hml hv
  obtain ⟨rfl, hP, hK⟩ := hv
  have C0 : cx p s m _ meth c b_P_side (some .int) 4 R_P := ⟨B.exec, B.bytes, B.returns, hml, fun w hw => atoms_spec (ws := w_P_side) B.pre w (List.mem_cons_of_mem _ hw), findClass_of_methodNamed B.named, B.notSynchronized⟩
  obtain ⟨hx, hb, hr, hml, hts, hown, hlocks⟩ := id C0
  have hl := lv_entry ([.ref gP, .int x1, .int x2, .int x3]) (n := 4) (Nat.le_of_ble_eq_true rfl)
  rw [lg_entry_eq]
  generalize (lg_sl ([.ref gP, .int x1, .int x2, .int x3]) ++ List.replicate (4 - (lg_sl ([.ref gP, .int x1, .int x2, .int x3])).length) Slot.unset).toArray = ls at hl ⊢
  have hl : lv_has ls 4 [(0, .ref gP), (1, .int x1), (2, .int x2), (3, .int x3)] := hl
  refine lv_aload_n hx hb d_P_side_0 rfl (lv_at hl 0 rfl) ?_
  refine lv_iload_n hx hb d_P_side_1 rfl (lv_at hl 1 rfl) ?_
  refine lv_iload_n hx hb d_P_side_2 rfl (lv_at hl 2 rfl) ?_
  refine lv_aload_n hx hb d_P_side_3 rfl (lv_at hl 0 rfl) ?_
  refine va_get (D := (dC, dI)) (ci := 1) (v := .ref aXs) (C := R_P) (T := T_P) (N := 5) hx hb hts in_P hown hK.1 hP 0 rfl rfl 0 (by decide) (hts _ bw_21) (fun _ h9 => h9) rfl d_P_side_4 ?_
  refine lv_iload_n hx hb d_P_side_7 rfl (lv_at hl 3 rfl) ?_
  obtain ⟨hi1, hf⟩ := o_i hf
  refine va_iald (cA := cI) (n := 20) (f := s_xs) hx hb hK.1 hP 1 0 rfl rfl hi1 d_P_side_8 ?_
  refine lv_aload_n hx hb d_P_side_9 rfl (lv_at hl 0 rfl) ?_
  refine va_get (D := (dC, dI)) (ci := 1) (v := .ref aYs) (C := R_P) (T := T_P) (N := 5) hx hb hts in_P hown hK.1 hP 0 rfl rfl 1 (by decide) (hts _ bw_22) (fun _ h9 => h9) rfl d_P_side_10 ?_
  refine lv_iload_n hx hb d_P_side_13 rfl (lv_at hl 3 rfl) ?_
  obtain ⟨hi2, hf⟩ := o_i hf
  refine va_iald (cA := cI) (n := 20) (f := s_ys) hx hb hK.1 hP 2 0 rfl rfl hi2 d_P_side_14 ?_
  obtain ⟨r3, hv5, hf⟩ := o_b hf
  refine rc_l (va_runV (As := [.int x1, .int x2, .int (s_xs x3.toNatClampNeg), .int (s_ys x3.toNatClampNeg)]) (rest := []) ⟨hx, hb, hml, hown, hts⟩ (c_P_crossTo l dC dI cI cZ gP aXs aYs aTk aOr s_xs s_ys s_pn x1 x2 (s_xs x3.toNatClampNeg) (s_ys x3.toNatClampNeg) r3 hv5) (cwV 4 hts (gd_V bw_185 bw_186 bw_187 bw_2 bw_188) rfl rfl rfl ⟨rfl, hd_P_crossTo⟩ ⟨Nat.le_of_ble_eq_true rfl, Nat.le_of_ble_eq_true rfl⟩) (pv_r (wc := [(gP, .inr (1, [.ref aXs, .ref aYs, .ref aTk, .ref aOr, .int s_pn])), (aXs, .inl (cI, 20, .inl s_xs)), (aYs, .inl (cI, 20, .inl s_ys))]) hK hP [0, 1, 2] rfl 0 (ci := 1) rfl rfl) rfl rfl hl.1 rfl (lv_room (Nat.le_of_ble_eq_true rfl)) d_P_side_15 ⟨Nat.zero_le _, Nat.zero_le _⟩) ?_
  obtain ⟨r6, hv8, hf⟩ := o_b hf
  refine rc_i (va_runSN (As := [.long r3]) (rest := []) ⟨hx, hb, hml, hown, hts⟩ (c_F_sign l dC dI cI cZ r3 r6 hv8) ⟨va_cnB 1 hts (gd_N bw_191) rfl rfl rfl (hK.2 _ (List.mem_of_getElem? (i := 3) rfl)) (hts _ bw_1) hd_F_sign ⟨Nat.le_of_ble_eq_true rfl, Nat.le_of_ble_eq_true rfl⟩, hts _ bw_190, trivial⟩ (ps_r (wc := []) hK hP [] rfl) rfl rfl hl.1 rfl (lv_room (Nat.le_of_ble_eq_true rfl)) d_P_side_18 ⟨Nat.zero_le _, Nat.zero_le _⟩) ?_
  cases hf
  exact rr_i hx hb hr hlocks d_P_side_21
set_option maxHeartbeats 4000000 in
set_option maxRecDepth 100000 in
theorem t_J_fill_L5 {p : Program} {l : Launch} {e : Env} {s : State} {m : MethodId} {args : Array Value} {below : List Frame} {meth : Method} {c : Code} {dC : Nat → ClassId} {dI : Nat → Nat → Nat} {cI cZ : ClassId} {aLi : Nat} {s_li' : Nat → Int32} {A : Nat → Prop} (C0 : cx p s m args meth c b_J_fill none 4 R_J) (hK : gK dC dI cI cZ s) (hA : ∀ q, s.heap.size ≤ q → A q) : ∀ (n : Nat) (s_li : Nat → Int32) (x1 : Int32) (x2 : Int32) (x3 : Int32), f_J_fill_L5  n s_li x1 x2 x3 = some s_li' → ∀ (H : Heap) (locs : List Loc), va_P (dC, dI) vwCl [(aLi, .inl (cI, 20, .inl s_li))] H → va_D A [(aLi, .inl (cI, 20, .inl s_li))] → va_S A s.heap H locs → ∀ (ls : Array Slot), lv_has ls 4 [(0, .ref aLi), (1, .int x1), (2, .int x2), (3, .int x3)] → W p l e (headSpec w_J_fill ({ frames := 0, cells := 0, slots := 0, locals := 0 } : Room)).room s m args below meth c H locs 0 0 (MQ below (QwV dC dI A [(aLi, .inl (cI, 20, .inl s_li'))]) args s 0 0 A) (F0 m 5 ls []) := by
  obtain ⟨hx, hb, hr, hml, hts, hown, hlocks⟩ := id C0
  intro n
  induction n with
  | zero =>
    intro s_li x1 x2 x3 hf
    exact (o_n hf).elim
  | succ n ih =>
    intro s_li x1 x2 x3 hf H locs hP hD hS ls hl
    refine lv_iload_n hx hb d_J_fill_5 rfl (lv_at hl 2 rfl) ?_
    refine lv_iload_n hx hb d_J_fill_6 rfl (lv_at hl 3 rfl) ?_
    refine lv_icmp_ge (tgt := 20) hx hb d_J_fill_7 (by decide) (fun hc1 => ?_) (fun hc1 => ?_)
    · have hf := o_t hf hc1
      cases hf
      exact wr_v hx hb hr hlocks hP hD hS d_J_fill_20
    · have hf := o_f hf hc1
      refine lv_aload_n hx hb d_J_fill_10 rfl (lv_at hl 0 rfl) ?_
      refine lv_iload_n hx hb d_J_fill_11 rfl (lv_at hl 2 rfl) ?_
      refine lv_iload_n hx hb d_J_fill_12 rfl (lv_at hl 1 rfl) ?_
      obtain ⟨hi2, hf⟩ := o_i hf
      refine va_iast (cA := cI) (n := 20) (f := s_li) hx hb hK.1 hP hD hS 0 0 rfl rfl hi2 d_J_fill_13 (fun H locs hP hD hS => ?_)
      have hP : va_P (dC, dI) vwCl [(aLi, .inl (cI, 20, .inl (upd s_li x2.toNatClampNeg x1)))] H := hP
      have hD : va_D A [(aLi, .inl (cI, 20, .inl (upd s_li x2.toNatClampNeg x1)))] := hD
      refine lv_iinc (v := (x2 + 1)) (lv' := [(2, .int (x2 + 1)), (0, .ref aLi), (1, .int x1), (3, .int x3)]) hx hb d_J_fill_14 hl (k := 2) rfl rfl (by decide) rfl (fun ls hl => ?_)
      refine lv_goto (tgt := 5) hx hb d_J_fill_17 (by decide) ?_
      exact ih (upd s_li x2.toNatClampNeg x1) x1 (x2 + 1) x3 hf _ _ hP hD hS ls (lv_sub hl [1, 2, 0, 3] rfl)
set_option maxHeartbeats 4000000 in
set_option maxRecDepth 100000 in
theorem t_J_fill_e {p : Program} {l : Launch} {e : Env} {s : State} {m : MethodId} {args : Array Value} {below : List Frame} {meth : Method} {c : Code} {dC : Nat → ClassId} {dI : Nat → Nat → Nat} {cI cZ : ClassId} {aLi : Nat} {s_li' : Nat → Int32} {A : Nat → Prop} (C0 : cx p s m args meth c b_J_fill none 4 R_J) (hK : gK dC dI cI cZ s) (hA : ∀ q, s.heap.size ≤ q → A q) : ∀ (s_li : Nat → Int32) (x1 : Int32), f_J_fill s_li x1 = some s_li' → ∀ (H : Heap) (locs : List Loc), va_P (dC, dI) vwCl [(aLi, .inl (cI, 20, .inl s_li))] H → va_D A [(aLi, .inl (cI, 20, .inl s_li))] → va_S A s.heap H locs → ∀ (ls : Array Slot), lv_has ls 4 [(0, .ref aLi), (1, .int x1)] → W p l e (headSpec w_J_fill ({ frames := 0, cells := 0, slots := 0, locals := 0 } : Room)).room s m args below meth c H locs 0 0 (MQ below (QwV dC dI A [(aLi, .inl (cI, 20, .inl s_li'))]) args s 0 0 A) (F0 m 0 ls []) := by
  obtain ⟨hx, hb, hr, hml, hts, hown, hlocks⟩ := id C0
  intro s_li x1 hf H locs hP hD hS ls hl
  refine lv_iconst (v := (0 : Int32)) hx hb d_J_fill_0 rfl ?_
  refine lv_istore_n (lv' := [(2, .int (0 : Int32)), (0, .ref aLi), (1, .int x1)]) hx hb d_J_fill_1 rfl hl (by decide) rfl (fun ls hl => ?_)
  refine lv_aload_n hx hb d_J_fill_2 rfl (lv_at hl 1 rfl) ?_
  refine va_alen (cA := cI) (x := (20, .inl s_li)) (ty := .int) (v := (20 : Int32)) hx hb hK.1 hP 0 0 rfl rfl rfl d_J_fill_3 ?_
  refine lv_istore_n (lv' := [(3, .int (20 : Int32)), (2, .int (0 : Int32)), (0, .ref aLi), (1, .int x1)]) hx hb d_J_fill_4 rfl hl (by decide) rfl (fun ls hl => ?_)
  exact t_J_fill_L5 C0 hK hA  600 s_li x1 (0 : Int32) (20 : Int32) hf _ _ hP hD hS ls (lv_sub hl [2, 3, 1, 0] rfl)
set_option maxHeartbeats 4000000 in
set_option maxRecDepth 100000 in
theorem c_J_fill (l : Launch) (dC : Nat → ClassId) (dI : Nat → Nat → Nat) (cI cZ : ClassId) (aLi : Nat) (s_li : Nat → Int32) (x1 : Int32) (s_li' : Nat → Int32) (sz : Nat) (hf : f_J_fill s_li x1 = some s_li') : Met l y_J_fill w_J_fill ({ frames := 0, cells := 0, slots := 0, locals := 0 } : Room) (PcW dC dI cI cZ [.ref aLi, .int x1] [(aLi, .inl (cI, 20, .inl s_li))] sz) (QwV dC dI (va_A [(aLi, .inl (cI, 20, .inl s_li))] sz) [(aLi, .inl (cI, 20, .inl s_li'))]) 0 0 (va_A [(aLi, .inl (cI, 20, .inl s_li))] sz) := by
  refine Met.ofW (cc := b_J_fill) (maxL := 4) (ret := none) (by decide) rfl ?_
  intro p e s m args below meth c s₁ B hml hv
  obtain ⟨rfl, hsz, hP, hK, hD0⟩ := hv
  have C0 : cx p s m _ meth c b_J_fill none 4 R_J := ⟨B.exec, B.bytes, B.returns, hml, fun w hw => atoms_spec (ws := w_J_fill) B.pre w (List.mem_cons_of_mem _ hw), findClass_of_methodNamed B.named, B.notSynchronized⟩
  subst hsz
  have hD := hD0.self (sz := s.heap.size)
  generalize hAe : va_A [(aLi, .inl (cI, 20, .inl s_li))] s.heap.size = A at hD ⊢
  have hA : ∀ q : Nat, s.heap.size ≤ q → A q := fun q h => by rw [← hAe]; exact Or.inr h
  have hl := lv_entry ([.ref aLi, .int x1]) (n := 4) (Nat.le_of_ble_eq_true rfl)
  rw [lg_entry_eq]
  generalize (lg_sl ([.ref aLi, .int x1]) ++ List.replicate (4 - (lg_sl ([.ref aLi, .int x1])).length) Slot.unset).toArray = ls at hl ⊢
  have hl : lv_has ls 4 [(0, .ref aLi), (1, .int x1)] := hl
  exact t_J_fill_e C0 hK hA s_li x1 hf _ _ hP hD va_S.rf ls hl
set_option maxHeartbeats 4000000 in
set_option maxRecDepth 100000 in
theorem c_P_signOfProducts (l : Launch) (dC : Nat → ClassId) (dI : Nat → Nat → Nat) (cI cZ : ClassId) (x0 : Int64) (x2 : Int64) (x4 : Int64) (x6 : Int64) (x8 : Int64) (x10 : Int64) (rv : Int32) (hf : f_P_signOfProducts x0 x2 x4 x6 x8 x10 = some rv) : Met l y_P_signOfProducts w_P_signOfProducts ({ frames := 1, cells := 0, slots := 0, locals := 21 } : Room) (PcR dC dI cI cZ [.long x0, .long x2, .long x4, .long x6, .long x8, .long x10] []) (vp_Si (fun r => r = rv)) 0 0 (fun _ => False) := by
  refine Met.ofW (cc := b_P_signOfProducts) (maxL := 18) (ret := (some .int)) (by decide) rfl ?_
  intro p e s m args below meth c s₁ B hml hv
  obtain ⟨rfl, hP, hK⟩ := hv
  have C0 : cx p s m _ meth c b_P_signOfProducts (some .int) 18 R_P := ⟨B.exec, B.bytes, B.returns, hml, fun w hw => atoms_spec (ws := w_P_signOfProducts) B.pre w (List.mem_cons_of_mem _ hw), findClass_of_methodNamed B.named, B.notSynchronized⟩
  obtain ⟨hx, hb, hr, hml, hts, hown, hlocks⟩ := id C0
  have hl := lv_entry ([.long x0, .long x2, .long x4, .long x6, .long x8, .long x10]) (n := 18) (Nat.le_of_ble_eq_true rfl)
  rw [lg_entry_eq]
  generalize (lg_sl ([.long x0, .long x2, .long x4, .long x6, .long x8, .long x10]) ++ List.replicate (18 - (lg_sl ([.long x0, .long x2, .long x4, .long x6, .long x8, .long x10])).length) Slot.unset).toArray = ls at hl ⊢
  have hl : lv_has ls 18 [(0, .long x0), (2, .long x2), (4, .long x4), (6, .long x6), (8, .long x8), (10, .long x10)] := hl
  refine lv_lload_n hx hb d_P_signOfProducts_0 rfl (lv_at hl 0 rfl) ?_
  refine lv_ldc2 (v := (32767 : Int64)) hx hb hown (hts _ bw_252) d_P_signOfProducts_1 ?_
  refine lv_land hx hb d_P_signOfProducts_4 ?_
  refine lv_lload_n hx hb d_P_signOfProducts_5 rfl (lv_at hl 1 rfl) ?_
  refine lv_lmul hx hb d_P_signOfProducts_6 ?_
  refine lv_lload hx hb d_P_signOfProducts_7 (lv_at hl 2 rfl) ?_
  refine lv_ldc2 (v := (32767 : Int64)) hx hb hown (hts _ bw_252) d_P_signOfProducts_9 ?_
  refine lv_land hx hb d_P_signOfProducts_12 ?_
  refine lv_lload hx hb d_P_signOfProducts_13 (lv_at hl 3 rfl) ?_
  refine lv_lmul hx hb d_P_signOfProducts_15 ?_
  refine lv_ladd hx hb d_P_signOfProducts_16 ?_
  refine lv_lload hx hb d_P_signOfProducts_17 (lv_at hl 4 rfl) ?_
  refine lv_ldc2 (v := (32767 : Int64)) hx hb hown (hts _ bw_252) d_P_signOfProducts_19 ?_
  refine lv_land hx hb d_P_signOfProducts_22 ?_
  refine lv_lload hx hb d_P_signOfProducts_23 (lv_at hl 5 rfl) ?_
  refine lv_lmul hx hb d_P_signOfProducts_25 ?_
  refine lv_ladd hx hb d_P_signOfProducts_26 ?_
  refine lv_lstore (lv' := [(12, .long ((((x0 &&& (32767 : Int64)) * x2) + ((x4 &&& (32767 : Int64)) * x6)) + ((x8 &&& (32767 : Int64)) * x10))), (0, .long x0), (2, .long x2), (4, .long x4), (6, .long x6), (8, .long x8), (10, .long x10)]) hx hb d_P_signOfProducts_27 hl (by decide) rfl (fun ls hl => ?_)
  refine lv_lload_n hx hb d_P_signOfProducts_29 rfl (lv_at hl 1 rfl) ?_
  refine lv_bipush (v := (15 : Int32)) hx hb d_P_signOfProducts_30 rfl ?_
  refine lv_lshr hx hb d_P_signOfProducts_32 rfl ?_
  refine lv_lstore_n (lv' := [(0, .long (x0 >>> ((15 : Int32).toInt64 &&& 63))), (12, .long ((((x0 &&& (32767 : Int64)) * x2) + ((x4 &&& (32767 : Int64)) * x6)) + ((x8 &&& (32767 : Int64)) * x10))), (2, .long x2), (4, .long x4), (6, .long x6), (8, .long x8), (10, .long x10)]) hx hb d_P_signOfProducts_33 rfl hl (by decide) rfl (fun ls hl => ?_)
  refine lv_lload hx hb d_P_signOfProducts_34 (lv_at hl 3 rfl) ?_
  refine lv_bipush (v := (15 : Int32)) hx hb d_P_signOfProducts_36 rfl ?_
  refine lv_lshr hx hb d_P_signOfProducts_38 rfl ?_
  refine lv_lstore (lv' := [(4, .long (x4 >>> ((15 : Int32).toInt64 &&& 63))), (0, .long (x0 >>> ((15 : Int32).toInt64 &&& 63))), (12, .long ((((x0 &&& (32767 : Int64)) * x2) + ((x4 &&& (32767 : Int64)) * x6)) + ((x8 &&& (32767 : Int64)) * x10))), (2, .long x2), (6, .long x6), (8, .long x8), (10, .long x10)]) hx hb d_P_signOfProducts_39 hl (by decide) rfl (fun ls hl => ?_)
  refine lv_lload hx hb d_P_signOfProducts_41 (lv_at hl 5 rfl) ?_
  refine lv_bipush (v := (15 : Int32)) hx hb d_P_signOfProducts_43 rfl ?_
  refine lv_lshr hx hb d_P_signOfProducts_45 rfl ?_
  refine lv_lstore (lv' := [(8, .long (x8 >>> ((15 : Int32).toInt64 &&& 63))), (4, .long (x4 >>> ((15 : Int32).toInt64 &&& 63))), (0, .long (x0 >>> ((15 : Int32).toInt64 &&& 63))), (12, .long ((((x0 &&& (32767 : Int64)) * x2) + ((x4 &&& (32767 : Int64)) * x6)) + ((x8 &&& (32767 : Int64)) * x10))), (2, .long x2), (6, .long x6), (10, .long x10)]) hx hb d_P_signOfProducts_46 hl (by decide) rfl (fun ls hl => ?_)
  refine lv_lload_n hx hb d_P_signOfProducts_48 rfl (lv_at hl 2 rfl) ?_
  refine lv_ldc2 (v := (32767 : Int64)) hx hb hown (hts _ bw_252) d_P_signOfProducts_49 ?_
  refine lv_land hx hb d_P_signOfProducts_52 ?_
  refine lv_lload_n hx hb d_P_signOfProducts_53 rfl (lv_at hl 4 rfl) ?_
  refine lv_lmul hx hb d_P_signOfProducts_54 ?_
  refine lv_lload hx hb d_P_signOfProducts_55 (lv_at hl 1 rfl) ?_
  refine lv_ldc2 (v := (32767 : Int64)) hx hb hown (hts _ bw_252) d_P_signOfProducts_57 ?_
  refine lv_land hx hb d_P_signOfProducts_60 ?_
  refine lv_lload hx hb d_P_signOfProducts_61 (lv_at hl 5 rfl) ?_
  refine lv_lmul hx hb d_P_signOfProducts_63 ?_
  refine lv_ladd hx hb d_P_signOfProducts_64 ?_
  refine lv_lload hx hb d_P_signOfProducts_65 (lv_at hl 0 rfl) ?_
  refine lv_ldc2 (v := (32767 : Int64)) hx hb hown (hts _ bw_252) d_P_signOfProducts_67 ?_
  refine lv_land hx hb d_P_signOfProducts_70 ?_
  refine lv_lload hx hb d_P_signOfProducts_71 (lv_at hl 6 rfl) ?_
  refine lv_lmul hx hb d_P_signOfProducts_73 ?_
  refine lv_ladd hx hb d_P_signOfProducts_74 ?_
  refine lv_lload hx hb d_P_signOfProducts_75 (lv_at hl 3 rfl) ?_
  refine lv_bipush (v := (15 : Int32)) hx hb d_P_signOfProducts_77 rfl ?_
  refine lv_lshr hx hb d_P_signOfProducts_79 rfl ?_
  refine lv_ladd hx hb d_P_signOfProducts_80 ?_
  refine lv_lstore (lv' := [(14, .long ((((((x0 >>> ((15 : Int32).toInt64 &&& 63)) &&& (32767 : Int64)) * x2) + (((x4 >>> ((15 : Int32).toInt64 &&& 63)) &&& (32767 : Int64)) * x6)) + (((x8 >>> ((15 : Int32).toInt64 &&& 63)) &&& (32767 : Int64)) * x10)) + (((((x0 &&& (32767 : Int64)) * x2) + ((x4 &&& (32767 : Int64)) * x6)) + ((x8 &&& (32767 : Int64)) * x10)) >>> ((15 : Int32).toInt64 &&& 63)))), (8, .long (x8 >>> ((15 : Int32).toInt64 &&& 63))), (4, .long (x4 >>> ((15 : Int32).toInt64 &&& 63))), (0, .long (x0 >>> ((15 : Int32).toInt64 &&& 63))), (12, .long ((((x0 &&& (32767 : Int64)) * x2) + ((x4 &&& (32767 : Int64)) * x6)) + ((x8 &&& (32767 : Int64)) * x10))), (2, .long x2), (6, .long x6), (10, .long x10)]) hx hb d_P_signOfProducts_81 hl (by decide) rfl (fun ls hl => ?_)
  refine lv_lload_n hx hb d_P_signOfProducts_83 rfl (lv_at hl 3 rfl) ?_
  refine lv_bipush (v := (15 : Int32)) hx hb d_P_signOfProducts_84 rfl ?_
  refine lv_lshr hx hb d_P_signOfProducts_86 rfl ?_
  refine lv_lstore_n (lv' := [(0, .long ((x0 >>> ((15 : Int32).toInt64 &&& 63)) >>> ((15 : Int32).toInt64 &&& 63))), (14, .long ((((((x0 >>> ((15 : Int32).toInt64 &&& 63)) &&& (32767 : Int64)) * x2) + (((x4 >>> ((15 : Int32).toInt64 &&& 63)) &&& (32767 : Int64)) * x6)) + (((x8 >>> ((15 : Int32).toInt64 &&& 63)) &&& (32767 : Int64)) * x10)) + (((((x0 &&& (32767 : Int64)) * x2) + ((x4 &&& (32767 : Int64)) * x6)) + ((x8 &&& (32767 : Int64)) * x10)) >>> ((15 : Int32).toInt64 &&& 63)))), (8, .long (x8 >>> ((15 : Int32).toInt64 &&& 63))), (4, .long (x4 >>> ((15 : Int32).toInt64 &&& 63))), (12, .long ((((x0 &&& (32767 : Int64)) * x2) + ((x4 &&& (32767 : Int64)) * x6)) + ((x8 &&& (32767 : Int64)) * x10))), (2, .long x2), (6, .long x6), (10, .long x10)]) hx hb d_P_signOfProducts_87 rfl hl (by decide) rfl (fun ls hl => ?_)
  refine lv_lload hx hb d_P_signOfProducts_88 (lv_at hl 3 rfl) ?_
  refine lv_bipush (v := (15 : Int32)) hx hb d_P_signOfProducts_90 rfl ?_
  refine lv_lshr hx hb d_P_signOfProducts_92 rfl ?_
  refine lv_lstore (lv' := [(4, .long ((x4 >>> ((15 : Int32).toInt64 &&& 63)) >>> ((15 : Int32).toInt64 &&& 63))), (0, .long ((x0 >>> ((15 : Int32).toInt64 &&& 63)) >>> ((15 : Int32).toInt64 &&& 63))), (14, .long ((((((x0 >>> ((15 : Int32).toInt64 &&& 63)) &&& (32767 : Int64)) * x2) + (((x4 >>> ((15 : Int32).toInt64 &&& 63)) &&& (32767 : Int64)) * x6)) + (((x8 >>> ((15 : Int32).toInt64 &&& 63)) &&& (32767 : Int64)) * x10)) + (((((x0 &&& (32767 : Int64)) * x2) + ((x4 &&& (32767 : Int64)) * x6)) + ((x8 &&& (32767 : Int64)) * x10)) >>> ((15 : Int32).toInt64 &&& 63)))), (8, .long (x8 >>> ((15 : Int32).toInt64 &&& 63))), (12, .long ((((x0 &&& (32767 : Int64)) * x2) + ((x4 &&& (32767 : Int64)) * x6)) + ((x8 &&& (32767 : Int64)) * x10))), (2, .long x2), (6, .long x6), (10, .long x10)]) hx hb d_P_signOfProducts_93 hl (by decide) rfl (fun ls hl => ?_)
  refine lv_lload hx hb d_P_signOfProducts_95 (lv_at hl 3 rfl) ?_
  refine lv_bipush (v := (15 : Int32)) hx hb d_P_signOfProducts_97 rfl ?_
  refine lv_lshr hx hb d_P_signOfProducts_99 rfl ?_
  refine lv_lstore (lv' := [(8, .long ((x8 >>> ((15 : Int32).toInt64 &&& 63)) >>> ((15 : Int32).toInt64 &&& 63))), (4, .long ((x4 >>> ((15 : Int32).toInt64 &&& 63)) >>> ((15 : Int32).toInt64 &&& 63))), (0, .long ((x0 >>> ((15 : Int32).toInt64 &&& 63)) >>> ((15 : Int32).toInt64 &&& 63))), (14, .long ((((((x0 >>> ((15 : Int32).toInt64 &&& 63)) &&& (32767 : Int64)) * x2) + (((x4 >>> ((15 : Int32).toInt64 &&& 63)) &&& (32767 : Int64)) * x6)) + (((x8 >>> ((15 : Int32).toInt64 &&& 63)) &&& (32767 : Int64)) * x10)) + (((((x0 &&& (32767 : Int64)) * x2) + ((x4 &&& (32767 : Int64)) * x6)) + ((x8 &&& (32767 : Int64)) * x10)) >>> ((15 : Int32).toInt64 &&& 63)))), (12, .long ((((x0 &&& (32767 : Int64)) * x2) + ((x4 &&& (32767 : Int64)) * x6)) + ((x8 &&& (32767 : Int64)) * x10))), (2, .long x2), (6, .long x6), (10, .long x10)]) hx hb d_P_signOfProducts_100 hl (by decide) rfl (fun ls hl => ?_)
  refine lv_lload_n hx hb d_P_signOfProducts_102 rfl (lv_at hl 2 rfl) ?_
  refine lv_lload_n hx hb d_P_signOfProducts_103 rfl (lv_at hl 5 rfl) ?_
  refine lv_lmul hx hb d_P_signOfProducts_104 ?_
  refine lv_lload hx hb d_P_signOfProducts_105 (lv_at hl 1 rfl) ?_
  refine lv_lload hx hb d_P_signOfProducts_107 (lv_at hl 6 rfl) ?_
  refine lv_lmul hx hb d_P_signOfProducts_109 ?_
  refine lv_ladd hx hb d_P_signOfProducts_110 ?_
  refine lv_lload hx hb d_P_signOfProducts_111 (lv_at hl 0 rfl) ?_
  refine lv_lload hx hb d_P_signOfProducts_113 (lv_at hl 7 rfl) ?_
  refine lv_lmul hx hb d_P_signOfProducts_115 ?_
  refine lv_ladd hx hb d_P_signOfProducts_116 ?_
  refine lv_lload hx hb d_P_signOfProducts_117 (lv_at hl 3 rfl) ?_
  refine lv_bipush (v := (15 : Int32)) hx hb d_P_signOfProducts_119 rfl ?_
  refine lv_lshr hx hb d_P_signOfProducts_121 rfl ?_
  refine lv_ladd hx hb d_P_signOfProducts_122 ?_
  refine lv_lstore (lv' := [(16, .long ((((((x0 >>> ((15 : Int32).toInt64 &&& 63)) >>> ((15 : Int32).toInt64 &&& 63)) * x2) + (((x4 >>> ((15 : Int32).toInt64 &&& 63)) >>> ((15 : Int32).toInt64 &&& 63)) * x6)) + (((x8 >>> ((15 : Int32).toInt64 &&& 63)) >>> ((15 : Int32).toInt64 &&& 63)) * x10)) + (((((((x0 >>> ((15 : Int32).toInt64 &&& 63)) &&& (32767 : Int64)) * x2) + (((x4 >>> ((15 : Int32).toInt64 &&& 63)) &&& (32767 : Int64)) * x6)) + (((x8 >>> ((15 : Int32).toInt64 &&& 63)) &&& (32767 : Int64)) * x10)) + (((((x0 &&& (32767 : Int64)) * x2) + ((x4 &&& (32767 : Int64)) * x6)) + ((x8 &&& (32767 : Int64)) * x10)) >>> ((15 : Int32).toInt64 &&& 63))) >>> ((15 : Int32).toInt64 &&& 63)))), (8, .long ((x8 >>> ((15 : Int32).toInt64 &&& 63)) >>> ((15 : Int32).toInt64 &&& 63))), (4, .long ((x4 >>> ((15 : Int32).toInt64 &&& 63)) >>> ((15 : Int32).toInt64 &&& 63))), (0, .long ((x0 >>> ((15 : Int32).toInt64 &&& 63)) >>> ((15 : Int32).toInt64 &&& 63))), (14, .long ((((((x0 >>> ((15 : Int32).toInt64 &&& 63)) &&& (32767 : Int64)) * x2) + (((x4 >>> ((15 : Int32).toInt64 &&& 63)) &&& (32767 : Int64)) * x6)) + (((x8 >>> ((15 : Int32).toInt64 &&& 63)) &&& (32767 : Int64)) * x10)) + (((((x0 &&& (32767 : Int64)) * x2) + ((x4 &&& (32767 : Int64)) * x6)) + ((x8 &&& (32767 : Int64)) * x10)) >>> ((15 : Int32).toInt64 &&& 63)))), (12, .long ((((x0 &&& (32767 : Int64)) * x2) + ((x4 &&& (32767 : Int64)) * x6)) + ((x8 &&& (32767 : Int64)) * x10))), (2, .long x2), (6, .long x6), (10, .long x10)]) hx hb d_P_signOfProducts_123 hl (by decide) rfl (fun ls hl => ?_)
  refine lv_lload hx hb d_P_signOfProducts_125 (lv_at hl 0 rfl) ?_
  refine lv_lconst (v := (0 : Int64)) hx hb d_P_signOfProducts_127 rfl ?_
  refine W.lcmp hx hb d_P_signOfProducts_128 ?_
  refine lv_if_eq (tgt := 138) hx hb d_P_signOfProducts_129 (by decide) (fun hc1 => ?_) (fun hc1 => ?_)
  · have hf := o_t hf hc1
    refine lv_lload hx hb d_P_signOfProducts_138 (lv_at hl 4 rfl) ?_
    refine lv_lload hx hb d_P_signOfProducts_140 (lv_at hl 5 rfl) ?_
    refine lv_lor hx hb d_P_signOfProducts_142 ?_
    refine lv_ldc2 (v := (32767 : Int64)) hx hb hown (hts _ bw_252) d_P_signOfProducts_143 ?_
    refine lv_land hx hb d_P_signOfProducts_146 ?_
    obtain ⟨r2, hv4, hf⟩ := o_b hf
    refine rc_i (va_runSN (As := [.long ((((((((x0 >>> ((15 : Int32).toInt64 &&& 63)) &&& (32767 : Int64)) * x2) + (((x4 >>> ((15 : Int32).toInt64 &&& 63)) &&& (32767 : Int64)) * x6)) + (((x8 >>> ((15 : Int32).toInt64 &&& 63)) &&& (32767 : Int64)) * x10)) + (((((x0 &&& (32767 : Int64)) * x2) + ((x4 &&& (32767 : Int64)) * x6)) + ((x8 &&& (32767 : Int64)) * x10)) >>> ((15 : Int32).toInt64 &&& 63))) ||| ((((x0 &&& (32767 : Int64)) * x2) + ((x4 &&& (32767 : Int64)) * x6)) + ((x8 &&& (32767 : Int64)) * x10))) &&& (32767 : Int64))]) (rest := []) ⟨hx, hb, hml, hown, hts⟩ (c_F_sign l dC dI cI cZ ((((((((x0 >>> ((15 : Int32).toInt64 &&& 63)) &&& (32767 : Int64)) * x2) + (((x4 >>> ((15 : Int32).toInt64 &&& 63)) &&& (32767 : Int64)) * x6)) + (((x8 >>> ((15 : Int32).toInt64 &&& 63)) &&& (32767 : Int64)) * x10)) + (((((x0 &&& (32767 : Int64)) * x2) + ((x4 &&& (32767 : Int64)) * x6)) + ((x8 &&& (32767 : Int64)) * x10)) >>> ((15 : Int32).toInt64 &&& 63))) ||| ((((x0 &&& (32767 : Int64)) * x2) + ((x4 &&& (32767 : Int64)) * x6)) + ((x8 &&& (32767 : Int64)) * x10))) &&& (32767 : Int64)) r2 hv4) ⟨va_cnB 1 hts (gd_N bw_191) rfl rfl rfl (hK.2 _ (List.mem_of_getElem? (i := 3) rfl)) (hts _ bw_1) hd_F_sign ⟨Nat.le_of_ble_eq_true rfl, Nat.le_of_ble_eq_true rfl⟩, hts _ bw_190, trivial⟩ (ps_r (wc := []) hK hP [] rfl) rfl rfl hl.1 rfl (lv_room (Nat.le_of_ble_eq_true rfl)) d_P_signOfProducts_147 ⟨Nat.zero_le _, Nat.zero_le _⟩) ?_
    cases hf
    exact rr_i hx hb hr hlocks d_P_signOfProducts_150
  · have hf := o_f hf hc1
    refine lv_lload hx hb d_P_signOfProducts_132 (lv_at hl 0 rfl) ?_
    obtain ⟨r5, hv7, hf⟩ := o_b hf
    refine rc_i (va_runSN (As := [.long ((((((x0 >>> ((15 : Int32).toInt64 &&& 63)) >>> ((15 : Int32).toInt64 &&& 63)) * x2) + (((x4 >>> ((15 : Int32).toInt64 &&& 63)) >>> ((15 : Int32).toInt64 &&& 63)) * x6)) + (((x8 >>> ((15 : Int32).toInt64 &&& 63)) >>> ((15 : Int32).toInt64 &&& 63)) * x10)) + (((((((x0 >>> ((15 : Int32).toInt64 &&& 63)) &&& (32767 : Int64)) * x2) + (((x4 >>> ((15 : Int32).toInt64 &&& 63)) &&& (32767 : Int64)) * x6)) + (((x8 >>> ((15 : Int32).toInt64 &&& 63)) &&& (32767 : Int64)) * x10)) + (((((x0 &&& (32767 : Int64)) * x2) + ((x4 &&& (32767 : Int64)) * x6)) + ((x8 &&& (32767 : Int64)) * x10)) >>> ((15 : Int32).toInt64 &&& 63))) >>> ((15 : Int32).toInt64 &&& 63)))]) (rest := []) ⟨hx, hb, hml, hown, hts⟩ (c_F_sign l dC dI cI cZ ((((((x0 >>> ((15 : Int32).toInt64 &&& 63)) >>> ((15 : Int32).toInt64 &&& 63)) * x2) + (((x4 >>> ((15 : Int32).toInt64 &&& 63)) >>> ((15 : Int32).toInt64 &&& 63)) * x6)) + (((x8 >>> ((15 : Int32).toInt64 &&& 63)) >>> ((15 : Int32).toInt64 &&& 63)) * x10)) + (((((((x0 >>> ((15 : Int32).toInt64 &&& 63)) &&& (32767 : Int64)) * x2) + (((x4 >>> ((15 : Int32).toInt64 &&& 63)) &&& (32767 : Int64)) * x6)) + (((x8 >>> ((15 : Int32).toInt64 &&& 63)) &&& (32767 : Int64)) * x10)) + (((((x0 &&& (32767 : Int64)) * x2) + ((x4 &&& (32767 : Int64)) * x6)) + ((x8 &&& (32767 : Int64)) * x10)) >>> ((15 : Int32).toInt64 &&& 63))) >>> ((15 : Int32).toInt64 &&& 63))) r5 hv7) ⟨va_cnB 1 hts (gd_N bw_191) rfl rfl rfl (hK.2 _ (List.mem_of_getElem? (i := 3) rfl)) (hts _ bw_1) hd_F_sign ⟨Nat.le_of_ble_eq_true rfl, Nat.le_of_ble_eq_true rfl⟩, hts _ bw_190, trivial⟩ (ps_r (wc := []) hK hP [] rfl) rfl rfl hl.1 rfl (lv_room (Nat.le_of_ble_eq_true rfl)) d_P_signOfProducts_134 ⟨Nat.zero_le _, Nat.zero_le _⟩) ?_
    cases hf
    exact rr_i hx hb hr hlocks d_P_signOfProducts_137
set_option maxHeartbeats 4000000 in
set_option maxRecDepth 100000 in
theorem c_P_circleSide (l : Launch) (dC : Nat → ClassId) (dI : Nat → Nat → Nat) (cI cZ : ClassId) (gP aXs aYs aTk aOr : Nat) (s_xs : Nat → Int32) (s_ys : Nat → Int32) (s_pn : Int32) (x1 : Int32) (x2 : Int32) (x3 : Int32) (x4 : Int32) (rv : Int32) (hf : f_P_circleSide s_xs s_ys x1 x2 x3 x4 = some rv) : Met l y_P_circleSide w_P_circleSide ({ frames := 2, cells := 0, slots := 0, locals := 58 } : Room) (PcR dC dI cI cZ [.ref gP, .int x1, .int x2, .int x3, .int x4] [(gP, .inr (1, [.ref aXs, .ref aYs, .ref aTk, .ref aOr, .int s_pn])), (aXs, .inl (cI, 20, .inl s_xs)), (aYs, .inl (cI, 20, .inl s_ys))]) (vp_Si (fun r => r = rv)) 0 0 (fun _ => False) := by
  refine Met.ofW (cc := b_P_circleSide) (maxL := 17) (ret := (some .int)) (by decide) rfl ?_
  intro p e s m args below meth c s₁ B hml hv
  obtain ⟨rfl, hP, hK⟩ := hv
  have C0 : cx p s m _ meth c b_P_circleSide (some .int) 17 R_P := ⟨B.exec, B.bytes, B.returns, hml, fun w hw => atoms_spec (ws := w_P_circleSide) B.pre w (List.mem_cons_of_mem _ hw), findClass_of_methodNamed B.named, B.notSynchronized⟩
  obtain ⟨hx, hb, hr, hml, hts, hown, hlocks⟩ := id C0
  have hl := lv_entry ([.ref gP, .int x1, .int x2, .int x3, .int x4]) (n := 17) (Nat.le_of_ble_eq_true rfl)
  rw [lg_entry_eq]
  generalize (lg_sl ([.ref gP, .int x1, .int x2, .int x3, .int x4]) ++ List.replicate (17 - (lg_sl ([.ref gP, .int x1, .int x2, .int x3, .int x4])).length) Slot.unset).toArray = ls at hl ⊢
  have hl : lv_has ls 17 [(0, .ref gP), (1, .int x1), (2, .int x2), (3, .int x3), (4, .int x4)] := hl
  refine lv_aload_n hx hb d_P_circleSide_0 rfl (lv_at hl 0 rfl) ?_
  refine va_get (D := (dC, dI)) (ci := 1) (v := .ref aXs) (C := R_P) (T := T_P) (N := 5) hx hb hts in_P hown hK.1 hP 0 rfl rfl 0 (by decide) (hts _ bw_21) (fun _ h9 => h9) rfl d_P_circleSide_1 ?_
  refine lv_iload_n hx hb d_P_circleSide_4 rfl (lv_at hl 1 rfl) ?_
  obtain ⟨hi1, hf⟩ := o_i hf
  refine va_iald (cA := cI) (n := 20) (f := s_xs) hx hb hK.1 hP 1 0 rfl rfl hi1 d_P_circleSide_5 ?_
  refine lv_aload_n hx hb d_P_circleSide_6 rfl (lv_at hl 0 rfl) ?_
  refine va_get (D := (dC, dI)) (ci := 1) (v := .ref aXs) (C := R_P) (T := T_P) (N := 5) hx hb hts in_P hown hK.1 hP 0 rfl rfl 0 (by decide) (hts _ bw_21) (fun _ h9 => h9) rfl d_P_circleSide_7 ?_
  refine lv_iload hx hb d_P_circleSide_10 (lv_at hl 4 rfl) ?_
  obtain ⟨hi2, hf⟩ := o_i hf
  refine va_iald (cA := cI) (n := 20) (f := s_xs) hx hb hK.1 hP 1 0 rfl rfl hi2 d_P_circleSide_12 ?_
  refine lv_isub hx hb d_P_circleSide_13 ?_
  refine lv_i2l hx hb d_P_circleSide_14 rfl ?_
  refine lv_lstore (lv' := [(5, .long ((s_xs x1.toNatClampNeg) - (s_xs x4.toNatClampNeg)).toInt64), (0, .ref gP), (1, .int x1), (2, .int x2), (3, .int x3), (4, .int x4)]) hx hb d_P_circleSide_15 hl (by decide) rfl (fun ls hl => ?_)
  refine lv_aload_n hx hb d_P_circleSide_17 rfl (lv_at hl 1 rfl) ?_
  refine va_get (D := (dC, dI)) (ci := 1) (v := .ref aYs) (C := R_P) (T := T_P) (N := 5) hx hb hts in_P hown hK.1 hP 0 rfl rfl 1 (by decide) (hts _ bw_22) (fun _ h9 => h9) rfl d_P_circleSide_18 ?_
  refine lv_iload_n hx hb d_P_circleSide_21 rfl (lv_at hl 2 rfl) ?_
  obtain ⟨hi3, hf⟩ := o_i hf
  refine va_iald (cA := cI) (n := 20) (f := s_ys) hx hb hK.1 hP 2 0 rfl rfl hi3 d_P_circleSide_22 ?_
  refine lv_aload_n hx hb d_P_circleSide_23 rfl (lv_at hl 1 rfl) ?_
  refine va_get (D := (dC, dI)) (ci := 1) (v := .ref aYs) (C := R_P) (T := T_P) (N := 5) hx hb hts in_P hown hK.1 hP 0 rfl rfl 1 (by decide) (hts _ bw_22) (fun _ h9 => h9) rfl d_P_circleSide_24 ?_
  refine lv_iload hx hb d_P_circleSide_27 (lv_at hl 5 rfl) ?_
  obtain ⟨hi4, hf⟩ := o_i hf
  refine va_iald (cA := cI) (n := 20) (f := s_ys) hx hb hK.1 hP 2 0 rfl rfl hi4 d_P_circleSide_29 ?_
  refine lv_isub hx hb d_P_circleSide_30 ?_
  refine lv_i2l hx hb d_P_circleSide_31 rfl ?_
  refine lv_lstore (lv' := [(7, .long ((s_ys x1.toNatClampNeg) - (s_ys x4.toNatClampNeg)).toInt64), (5, .long ((s_xs x1.toNatClampNeg) - (s_xs x4.toNatClampNeg)).toInt64), (0, .ref gP), (1, .int x1), (2, .int x2), (3, .int x3), (4, .int x4)]) hx hb d_P_circleSide_32 hl (by decide) rfl (fun ls hl => ?_)
  refine lv_aload_n hx hb d_P_circleSide_34 rfl (lv_at hl 2 rfl) ?_
  refine va_get (D := (dC, dI)) (ci := 1) (v := .ref aXs) (C := R_P) (T := T_P) (N := 5) hx hb hts in_P hown hK.1 hP 0 rfl rfl 0 (by decide) (hts _ bw_21) (fun _ h9 => h9) rfl d_P_circleSide_35 ?_
  refine lv_iload_n hx hb d_P_circleSide_38 rfl (lv_at hl 4 rfl) ?_
  obtain ⟨hi5, hf⟩ := o_i hf
  refine va_iald (cA := cI) (n := 20) (f := s_xs) hx hb hK.1 hP 1 0 rfl rfl hi5 d_P_circleSide_39 ?_
  refine lv_aload_n hx hb d_P_circleSide_40 rfl (lv_at hl 2 rfl) ?_
  refine va_get (D := (dC, dI)) (ci := 1) (v := .ref aXs) (C := R_P) (T := T_P) (N := 5) hx hb hts in_P hown hK.1 hP 0 rfl rfl 0 (by decide) (hts _ bw_21) (fun _ h9 => h9) rfl d_P_circleSide_41 ?_
  refine lv_iload hx hb d_P_circleSide_44 (lv_at hl 6 rfl) ?_
  obtain ⟨hi6, hf⟩ := o_i hf
  refine va_iald (cA := cI) (n := 20) (f := s_xs) hx hb hK.1 hP 1 0 rfl rfl hi6 d_P_circleSide_46 ?_
  refine lv_isub hx hb d_P_circleSide_47 ?_
  refine lv_i2l hx hb d_P_circleSide_48 rfl ?_
  refine lv_lstore (lv' := [(9, .long ((s_xs x2.toNatClampNeg) - (s_xs x4.toNatClampNeg)).toInt64), (7, .long ((s_ys x1.toNatClampNeg) - (s_ys x4.toNatClampNeg)).toInt64), (5, .long ((s_xs x1.toNatClampNeg) - (s_xs x4.toNatClampNeg)).toInt64), (0, .ref gP), (1, .int x1), (2, .int x2), (3, .int x3), (4, .int x4)]) hx hb d_P_circleSide_49 hl (by decide) rfl (fun ls hl => ?_)
  refine lv_aload_n hx hb d_P_circleSide_51 rfl (lv_at hl 3 rfl) ?_
  refine va_get (D := (dC, dI)) (ci := 1) (v := .ref aYs) (C := R_P) (T := T_P) (N := 5) hx hb hts in_P hown hK.1 hP 0 rfl rfl 1 (by decide) (hts _ bw_22) (fun _ h9 => h9) rfl d_P_circleSide_52 ?_
  refine lv_iload_n hx hb d_P_circleSide_55 rfl (lv_at hl 5 rfl) ?_
  obtain ⟨hi7, hf⟩ := o_i hf
  refine va_iald (cA := cI) (n := 20) (f := s_ys) hx hb hK.1 hP 2 0 rfl rfl hi7 d_P_circleSide_56 ?_
  refine lv_aload_n hx hb d_P_circleSide_57 rfl (lv_at hl 3 rfl) ?_
  refine va_get (D := (dC, dI)) (ci := 1) (v := .ref aYs) (C := R_P) (T := T_P) (N := 5) hx hb hts in_P hown hK.1 hP 0 rfl rfl 1 (by decide) (hts _ bw_22) (fun _ h9 => h9) rfl d_P_circleSide_58 ?_
  refine lv_iload hx hb d_P_circleSide_61 (lv_at hl 7 rfl) ?_
  obtain ⟨hi8, hf⟩ := o_i hf
  refine va_iald (cA := cI) (n := 20) (f := s_ys) hx hb hK.1 hP 2 0 rfl rfl hi8 d_P_circleSide_63 ?_
  refine lv_isub hx hb d_P_circleSide_64 ?_
  refine lv_i2l hx hb d_P_circleSide_65 rfl ?_
  refine lv_lstore (lv' := [(11, .long ((s_ys x2.toNatClampNeg) - (s_ys x4.toNatClampNeg)).toInt64), (9, .long ((s_xs x2.toNatClampNeg) - (s_xs x4.toNatClampNeg)).toInt64), (7, .long ((s_ys x1.toNatClampNeg) - (s_ys x4.toNatClampNeg)).toInt64), (5, .long ((s_xs x1.toNatClampNeg) - (s_xs x4.toNatClampNeg)).toInt64), (0, .ref gP), (1, .int x1), (2, .int x2), (3, .int x3), (4, .int x4)]) hx hb d_P_circleSide_66 hl (by decide) rfl (fun ls hl => ?_)
  refine lv_aload_n hx hb d_P_circleSide_68 rfl (lv_at hl 4 rfl) ?_
  refine va_get (D := (dC, dI)) (ci := 1) (v := .ref aXs) (C := R_P) (T := T_P) (N := 5) hx hb hts in_P hown hK.1 hP 0 rfl rfl 0 (by decide) (hts _ bw_21) (fun _ h9 => h9) rfl d_P_circleSide_69 ?_
  refine lv_iload_n hx hb d_P_circleSide_72 rfl (lv_at hl 7 rfl) ?_
  obtain ⟨hi9, hf⟩ := o_i hf
  refine va_iald (cA := cI) (n := 20) (f := s_xs) hx hb hK.1 hP 1 0 rfl rfl hi9 d_P_circleSide_73 ?_
  refine lv_aload_n hx hb d_P_circleSide_74 rfl (lv_at hl 4 rfl) ?_
  refine va_get (D := (dC, dI)) (ci := 1) (v := .ref aXs) (C := R_P) (T := T_P) (N := 5) hx hb hts in_P hown hK.1 hP 0 rfl rfl 0 (by decide) (hts _ bw_21) (fun _ h9 => h9) rfl d_P_circleSide_75 ?_
  refine lv_iload hx hb d_P_circleSide_78 (lv_at hl 8 rfl) ?_
  obtain ⟨hi10, hf⟩ := o_i hf
  refine va_iald (cA := cI) (n := 20) (f := s_xs) hx hb hK.1 hP 1 0 rfl rfl hi10 d_P_circleSide_80 ?_
  refine lv_isub hx hb d_P_circleSide_81 ?_
  refine lv_i2l hx hb d_P_circleSide_82 rfl ?_
  refine lv_lstore (lv' := [(13, .long ((s_xs x3.toNatClampNeg) - (s_xs x4.toNatClampNeg)).toInt64), (11, .long ((s_ys x2.toNatClampNeg) - (s_ys x4.toNatClampNeg)).toInt64), (9, .long ((s_xs x2.toNatClampNeg) - (s_xs x4.toNatClampNeg)).toInt64), (7, .long ((s_ys x1.toNatClampNeg) - (s_ys x4.toNatClampNeg)).toInt64), (5, .long ((s_xs x1.toNatClampNeg) - (s_xs x4.toNatClampNeg)).toInt64), (0, .ref gP), (1, .int x1), (2, .int x2), (3, .int x3), (4, .int x4)]) hx hb d_P_circleSide_83 hl (by decide) rfl (fun ls hl => ?_)
  refine lv_aload_n hx hb d_P_circleSide_85 rfl (lv_at hl 5 rfl) ?_
  refine va_get (D := (dC, dI)) (ci := 1) (v := .ref aYs) (C := R_P) (T := T_P) (N := 5) hx hb hts in_P hown hK.1 hP 0 rfl rfl 1 (by decide) (hts _ bw_22) (fun _ h9 => h9) rfl d_P_circleSide_86 ?_
  refine lv_iload_n hx hb d_P_circleSide_89 rfl (lv_at hl 8 rfl) ?_
  obtain ⟨hi11, hf⟩ := o_i hf
  refine va_iald (cA := cI) (n := 20) (f := s_ys) hx hb hK.1 hP 2 0 rfl rfl hi11 d_P_circleSide_90 ?_
  refine lv_aload_n hx hb d_P_circleSide_91 rfl (lv_at hl 5 rfl) ?_
  refine va_get (D := (dC, dI)) (ci := 1) (v := .ref aYs) (C := R_P) (T := T_P) (N := 5) hx hb hts in_P hown hK.1 hP 0 rfl rfl 1 (by decide) (hts _ bw_22) (fun _ h9 => h9) rfl d_P_circleSide_92 ?_
  refine lv_iload hx hb d_P_circleSide_95 (lv_at hl 9 rfl) ?_
  obtain ⟨hi12, hf⟩ := o_i hf
  refine va_iald (cA := cI) (n := 20) (f := s_ys) hx hb hK.1 hP 2 0 rfl rfl hi12 d_P_circleSide_97 ?_
  refine lv_isub hx hb d_P_circleSide_98 ?_
  refine lv_i2l hx hb d_P_circleSide_99 rfl ?_
  refine lv_lstore (lv' := [(15, .long ((s_ys x3.toNatClampNeg) - (s_ys x4.toNatClampNeg)).toInt64), (13, .long ((s_xs x3.toNatClampNeg) - (s_xs x4.toNatClampNeg)).toInt64), (11, .long ((s_ys x2.toNatClampNeg) - (s_ys x4.toNatClampNeg)).toInt64), (9, .long ((s_xs x2.toNatClampNeg) - (s_xs x4.toNatClampNeg)).toInt64), (7, .long ((s_ys x1.toNatClampNeg) - (s_ys x4.toNatClampNeg)).toInt64), (5, .long ((s_xs x1.toNatClampNeg) - (s_xs x4.toNatClampNeg)).toInt64), (0, .ref gP), (1, .int x1), (2, .int x2), (3, .int x3), (4, .int x4)]) hx hb d_P_circleSide_100 hl (by decide) rfl (fun ls hl => ?_)
  refine lv_lload hx hb d_P_circleSide_102 (lv_at hl 5 rfl) ?_
  refine lv_lload hx hb d_P_circleSide_104 (lv_at hl 5 rfl) ?_
  refine lv_lmul hx hb d_P_circleSide_106 ?_
  refine lv_lload hx hb d_P_circleSide_107 (lv_at hl 4 rfl) ?_
  refine lv_lload hx hb d_P_circleSide_109 (lv_at hl 4 rfl) ?_
  refine lv_lmul hx hb d_P_circleSide_111 ?_
  refine lv_ladd hx hb d_P_circleSide_112 ?_
  refine lv_lload hx hb d_P_circleSide_113 (lv_at hl 3 rfl) ?_
  refine lv_lload hx hb d_P_circleSide_115 (lv_at hl 0 rfl) ?_
  refine lv_lmul hx hb d_P_circleSide_117 ?_
  refine lv_lload hx hb d_P_circleSide_118 (lv_at hl 2 rfl) ?_
  refine lv_lload hx hb d_P_circleSide_120 (lv_at hl 1 rfl) ?_
  refine lv_lmul hx hb d_P_circleSide_122 ?_
  refine lv_lsub hx hb d_P_circleSide_123 ?_
  refine lv_lload hx hb d_P_circleSide_124 (lv_at hl 3 rfl) ?_
  refine lv_lload hx hb d_P_circleSide_126 (lv_at hl 3 rfl) ?_
  refine lv_lmul hx hb d_P_circleSide_128 ?_
  refine lv_lload hx hb d_P_circleSide_129 (lv_at hl 2 rfl) ?_
  refine lv_lload hx hb d_P_circleSide_131 (lv_at hl 2 rfl) ?_
  refine lv_lmul hx hb d_P_circleSide_133 ?_
  refine lv_ladd hx hb d_P_circleSide_134 ?_
  refine lv_lload hx hb d_P_circleSide_135 (lv_at hl 1 rfl) ?_
  refine lv_lload hx hb d_P_circleSide_137 (lv_at hl 4 rfl) ?_
  refine lv_lmul hx hb d_P_circleSide_139 ?_
  refine lv_lload hx hb d_P_circleSide_140 (lv_at hl 0 rfl) ?_
  refine lv_lload hx hb d_P_circleSide_142 (lv_at hl 5 rfl) ?_
  refine lv_lmul hx hb d_P_circleSide_144 ?_
  refine lv_lsub hx hb d_P_circleSide_145 ?_
  refine lv_lload hx hb d_P_circleSide_146 (lv_at hl 1 rfl) ?_
  refine lv_lload hx hb d_P_circleSide_148 (lv_at hl 1 rfl) ?_
  refine lv_lmul hx hb d_P_circleSide_150 ?_
  refine lv_lload hx hb d_P_circleSide_151 (lv_at hl 0 rfl) ?_
  refine lv_lload hx hb d_P_circleSide_153 (lv_at hl 0 rfl) ?_
  refine lv_lmul hx hb d_P_circleSide_155 ?_
  refine lv_ladd hx hb d_P_circleSide_156 ?_
  refine lv_lload hx hb d_P_circleSide_157 (lv_at hl 5 rfl) ?_
  refine lv_lload hx hb d_P_circleSide_159 (lv_at hl 2 rfl) ?_
  refine lv_lmul hx hb d_P_circleSide_161 ?_
  refine lv_lload hx hb d_P_circleSide_162 (lv_at hl 4 rfl) ?_
  refine lv_lload hx hb d_P_circleSide_164 (lv_at hl 3 rfl) ?_
  refine lv_lmul hx hb d_P_circleSide_166 ?_
  refine lv_lsub hx hb d_P_circleSide_167 ?_
  obtain ⟨r13, hv15, hf⟩ := o_b hf
  refine rc_i (va_runS (As := [.long ((((s_xs x1.toNatClampNeg) - (s_xs x4.toNatClampNeg)).toInt64 * ((s_xs x1.toNatClampNeg) - (s_xs x4.toNatClampNeg)).toInt64) + (((s_ys x1.toNatClampNeg) - (s_ys x4.toNatClampNeg)).toInt64 * ((s_ys x1.toNatClampNeg) - (s_ys x4.toNatClampNeg)).toInt64)), .long ((((s_xs x2.toNatClampNeg) - (s_xs x4.toNatClampNeg)).toInt64 * ((s_ys x3.toNatClampNeg) - (s_ys x4.toNatClampNeg)).toInt64) - (((s_ys x2.toNatClampNeg) - (s_ys x4.toNatClampNeg)).toInt64 * ((s_xs x3.toNatClampNeg) - (s_xs x4.toNatClampNeg)).toInt64)), .long ((((s_xs x2.toNatClampNeg) - (s_xs x4.toNatClampNeg)).toInt64 * ((s_xs x2.toNatClampNeg) - (s_xs x4.toNatClampNeg)).toInt64) + (((s_ys x2.toNatClampNeg) - (s_ys x4.toNatClampNeg)).toInt64 * ((s_ys x2.toNatClampNeg) - (s_ys x4.toNatClampNeg)).toInt64)), .long ((((s_xs x3.toNatClampNeg) - (s_xs x4.toNatClampNeg)).toInt64 * ((s_ys x1.toNatClampNeg) - (s_ys x4.toNatClampNeg)).toInt64) - (((s_ys x3.toNatClampNeg) - (s_ys x4.toNatClampNeg)).toInt64 * ((s_xs x1.toNatClampNeg) - (s_xs x4.toNatClampNeg)).toInt64)), .long ((((s_xs x3.toNatClampNeg) - (s_xs x4.toNatClampNeg)).toInt64 * ((s_xs x3.toNatClampNeg) - (s_xs x4.toNatClampNeg)).toInt64) + (((s_ys x3.toNatClampNeg) - (s_ys x4.toNatClampNeg)).toInt64 * ((s_ys x3.toNatClampNeg) - (s_ys x4.toNatClampNeg)).toInt64)), .long ((((s_xs x1.toNatClampNeg) - (s_xs x4.toNatClampNeg)).toInt64 * ((s_ys x2.toNatClampNeg) - (s_ys x4.toNatClampNeg)).toInt64) - (((s_ys x1.toNatClampNeg) - (s_ys x4.toNatClampNeg)).toInt64 * ((s_xs x2.toNatClampNeg) - (s_xs x4.toNatClampNeg)).toInt64))]) (rest := []) ⟨hx, hb, hml, hown, hts⟩ (c_P_signOfProducts l dC dI cI cZ ((((s_xs x1.toNatClampNeg) - (s_xs x4.toNatClampNeg)).toInt64 * ((s_xs x1.toNatClampNeg) - (s_xs x4.toNatClampNeg)).toInt64) + (((s_ys x1.toNatClampNeg) - (s_ys x4.toNatClampNeg)).toInt64 * ((s_ys x1.toNatClampNeg) - (s_ys x4.toNatClampNeg)).toInt64)) ((((s_xs x2.toNatClampNeg) - (s_xs x4.toNatClampNeg)).toInt64 * ((s_ys x3.toNatClampNeg) - (s_ys x4.toNatClampNeg)).toInt64) - (((s_ys x2.toNatClampNeg) - (s_ys x4.toNatClampNeg)).toInt64 * ((s_xs x3.toNatClampNeg) - (s_xs x4.toNatClampNeg)).toInt64)) ((((s_xs x2.toNatClampNeg) - (s_xs x4.toNatClampNeg)).toInt64 * ((s_xs x2.toNatClampNeg) - (s_xs x4.toNatClampNeg)).toInt64) + (((s_ys x2.toNatClampNeg) - (s_ys x4.toNatClampNeg)).toInt64 * ((s_ys x2.toNatClampNeg) - (s_ys x4.toNatClampNeg)).toInt64)) ((((s_xs x3.toNatClampNeg) - (s_xs x4.toNatClampNeg)).toInt64 * ((s_ys x1.toNatClampNeg) - (s_ys x4.toNatClampNeg)).toInt64) - (((s_ys x3.toNatClampNeg) - (s_ys x4.toNatClampNeg)).toInt64 * ((s_xs x1.toNatClampNeg) - (s_xs x4.toNatClampNeg)).toInt64)) ((((s_xs x3.toNatClampNeg) - (s_xs x4.toNatClampNeg)).toInt64 * ((s_xs x3.toNatClampNeg) - (s_xs x4.toNatClampNeg)).toInt64) + (((s_ys x3.toNatClampNeg) - (s_ys x4.toNatClampNeg)).toInt64 * ((s_ys x3.toNatClampNeg) - (s_ys x4.toNatClampNeg)).toInt64)) ((((s_xs x1.toNatClampNeg) - (s_xs x4.toNatClampNeg)).toInt64 * ((s_ys x2.toNatClampNeg) - (s_ys x4.toNatClampNeg)).toInt64) - (((s_ys x1.toNatClampNeg) - (s_ys x4.toNatClampNeg)).toInt64 * ((s_xs x2.toNatClampNeg) - (s_xs x4.toNatClampNeg)).toInt64)) r13 hv15) (va_cwS 6 hts (gd_S bw_249 bw_250 bw_2 bw_251) rfl rfl rfl hd_P_signOfProducts ⟨Nat.le_of_ble_eq_true rfl, Nat.le_of_ble_eq_true rfl⟩) (ps_r (wc := []) hK hP [] rfl) rfl rfl hl.1 rfl (lv_room (Nat.le_of_ble_eq_true rfl)) d_P_circleSide_168 ⟨Nat.zero_le _, Nat.zero_le _⟩) ?_
  cases hf
  exact rr_i hx hb hr hlocks d_P_circleSide_171
set_option maxHeartbeats 4000000 in
set_option maxRecDepth 100000 in
theorem c_P_squaredDistance (l : Launch) (dC : Nat → ClassId) (dI : Nat → Nat → Nat) (cI cZ : ClassId) (gP aXs aYs aTk aOr : Nat) (s_xs : Nat → Int32) (s_ys : Nat → Int32) (s_pn : Int32) (x1 : Int32) (x2 : Int32) (x3 : Int32) (rv : Int64) (hf : f_P_squaredDistance s_xs s_ys x1 x2 x3 = some rv) : Met l y_P_squaredDistance w_P_squaredDistance ({ frames := 0, cells := 0, slots := 0, locals := 0 } : Room) (PcR dC dI cI cZ [.ref gP, .int x1, .int x2, .int x3] [(gP, .inr (1, [.ref aXs, .ref aYs, .ref aTk, .ref aOr, .int s_pn])), (aXs, .inl (cI, 20, .inl s_xs)), (aYs, .inl (cI, 20, .inl s_ys))]) (vp_Sl (fun r => r = rv)) 0 0 (fun _ => False) := by
  refine Met.ofW (cc := b_P_squaredDistance) (maxL := 8) (ret := (some .long)) (by decide) rfl ?_
  intro p e s m args below meth c s₁ B hml hv
  obtain ⟨rfl, hP, hK⟩ := hv
  have C0 : cx p s m _ meth c b_P_squaredDistance (some .long) 8 R_P := ⟨B.exec, B.bytes, B.returns, hml, fun w hw => atoms_spec (ws := w_P_squaredDistance) B.pre w (List.mem_cons_of_mem _ hw), findClass_of_methodNamed B.named, B.notSynchronized⟩
  obtain ⟨hx, hb, hr, hml, hts, hown, hlocks⟩ := id C0
  have hl := lv_entry ([.ref gP, .int x1, .int x2, .int x3]) (n := 8) (Nat.le_of_ble_eq_true rfl)
  rw [lg_entry_eq]
  generalize (lg_sl ([.ref gP, .int x1, .int x2, .int x3]) ++ List.replicate (8 - (lg_sl ([.ref gP, .int x1, .int x2, .int x3])).length) Slot.unset).toArray = ls at hl ⊢
  have hl : lv_has ls 8 [(0, .ref gP), (1, .int x1), (2, .int x2), (3, .int x3)] := hl
  refine lv_aload_n hx hb d_P_squaredDistance_0 rfl (lv_at hl 0 rfl) ?_
  refine va_get (D := (dC, dI)) (ci := 1) (v := .ref aXs) (C := R_P) (T := T_P) (N := 5) hx hb hts in_P hown hK.1 hP 0 rfl rfl 0 (by decide) (hts _ bw_21) (fun _ h9 => h9) rfl d_P_squaredDistance_1 ?_
  refine lv_iload_n hx hb d_P_squaredDistance_4 rfl (lv_at hl 1 rfl) ?_
  obtain ⟨hi1, hf⟩ := o_i hf
  refine va_iald (cA := cI) (n := 20) (f := s_xs) hx hb hK.1 hP 1 0 rfl rfl hi1 d_P_squaredDistance_5 ?_
  refine lv_iload_n hx hb d_P_squaredDistance_6 rfl (lv_at hl 2 rfl) ?_
  refine lv_isub hx hb d_P_squaredDistance_7 ?_
  refine lv_i2l hx hb d_P_squaredDistance_8 rfl ?_
  refine lv_lstore (lv' := [(4, .long ((s_xs x1.toNatClampNeg) - x2).toInt64), (0, .ref gP), (1, .int x1), (2, .int x2), (3, .int x3)]) hx hb d_P_squaredDistance_9 hl (by decide) rfl (fun ls hl => ?_)
  refine lv_aload_n hx hb d_P_squaredDistance_11 rfl (lv_at hl 1 rfl) ?_
  refine va_get (D := (dC, dI)) (ci := 1) (v := .ref aYs) (C := R_P) (T := T_P) (N := 5) hx hb hts in_P hown hK.1 hP 0 rfl rfl 1 (by decide) (hts _ bw_22) (fun _ h9 => h9) rfl d_P_squaredDistance_12 ?_
  refine lv_iload_n hx hb d_P_squaredDistance_15 rfl (lv_at hl 2 rfl) ?_
  obtain ⟨hi2, hf⟩ := o_i hf
  refine va_iald (cA := cI) (n := 20) (f := s_ys) hx hb hK.1 hP 2 0 rfl rfl hi2 d_P_squaredDistance_16 ?_
  refine lv_iload_n hx hb d_P_squaredDistance_17 rfl (lv_at hl 4 rfl) ?_
  refine lv_isub hx hb d_P_squaredDistance_18 ?_
  refine lv_i2l hx hb d_P_squaredDistance_19 rfl ?_
  refine lv_lstore (lv' := [(6, .long ((s_ys x1.toNatClampNeg) - x3).toInt64), (4, .long ((s_xs x1.toNatClampNeg) - x2).toInt64), (0, .ref gP), (1, .int x1), (2, .int x2), (3, .int x3)]) hx hb d_P_squaredDistance_20 hl (by decide) rfl (fun ls hl => ?_)
  refine lv_lload hx hb d_P_squaredDistance_22 (lv_at hl 1 rfl) ?_
  refine lv_lload hx hb d_P_squaredDistance_24 (lv_at hl 1 rfl) ?_
  refine lv_lmul hx hb d_P_squaredDistance_26 ?_
  refine lv_lload hx hb d_P_squaredDistance_27 (lv_at hl 0 rfl) ?_
  refine lv_lload hx hb d_P_squaredDistance_29 (lv_at hl 0 rfl) ?_
  refine lv_lmul hx hb d_P_squaredDistance_31 ?_
  refine lv_ladd hx hb d_P_squaredDistance_32 ?_
  cases hf
  exact rr_l hx hb hr hlocks d_P_squaredDistance_33
set_option maxHeartbeats 4000000 in
set_option maxRecDepth 100000 in
theorem c_P_doubleArea (l : Launch) (dC : Nat → ClassId) (dI : Nat → Nat → Nat) (cI cZ : ClassId) (gP aXs aYs aTk aOr : Nat) (s_xs : Nat → Int32) (s_ys : Nat → Int32) (s_pn : Int32) (x1 : Int32) (x2 : Int32) (x3 : Int32) (rv : Int64) (hf : f_P_doubleArea s_xs s_ys x1 x2 x3 = some rv) : Met l y_P_doubleArea w_P_doubleArea ({ frames := 1, cells := 0, slots := 0, locals := 32 } : Room) (PcR dC dI cI cZ [.ref gP, .int x1, .int x2, .int x3] [(gP, .inr (1, [.ref aXs, .ref aYs, .ref aTk, .ref aOr, .int s_pn])), (aXs, .inl (cI, 20, .inl s_xs)), (aYs, .inl (cI, 20, .inl s_ys))]) (vp_Sl (fun r => r = rv)) 0 0 (fun _ => False) := by
  refine Met.ofW (cc := b_P_doubleArea) (maxL := 4) (ret := (some .long)) (by decide) rfl ?_
  intro p e s m args below meth c s₁ B hml hv
  obtain ⟨rfl, hP, hK⟩ := hv
  have C0 : cx p s m _ meth c b_P_doubleArea (some .long) 4 R_P := ⟨B.exec, B.bytes, B.returns, hml, fun w hw => atoms_spec (ws := w_P_doubleArea) B.pre w (List.mem_cons_of_mem _ hw), findClass_of_methodNamed B.named, B.notSynchronized⟩
  obtain ⟨hx, hb, hr, hml, hts, hown, hlocks⟩ := id C0
  have hl := lv_entry ([.ref gP, .int x1, .int x2, .int x3]) (n := 4) (Nat.le_of_ble_eq_true rfl)
  rw [lg_entry_eq]
  generalize (lg_sl ([.ref gP, .int x1, .int x2, .int x3]) ++ List.replicate (4 - (lg_sl ([.ref gP, .int x1, .int x2, .int x3])).length) Slot.unset).toArray = ls at hl ⊢
  have hl : lv_has ls 4 [(0, .ref gP), (1, .int x1), (2, .int x2), (3, .int x3)] := hl
  refine lv_aload_n hx hb d_P_doubleArea_0 rfl (lv_at hl 0 rfl) ?_
  refine lv_iload_n hx hb d_P_doubleArea_1 rfl (lv_at hl 1 rfl) ?_
  refine lv_iload_n hx hb d_P_doubleArea_2 rfl (lv_at hl 2 rfl) ?_
  refine lv_aload_n hx hb d_P_doubleArea_3 rfl (lv_at hl 0 rfl) ?_
  refine va_get (D := (dC, dI)) (ci := 1) (v := .ref aXs) (C := R_P) (T := T_P) (N := 5) hx hb hts in_P hown hK.1 hP 0 rfl rfl 0 (by decide) (hts _ bw_21) (fun _ h9 => h9) rfl d_P_doubleArea_4 ?_
  refine lv_iload_n hx hb d_P_doubleArea_7 rfl (lv_at hl 3 rfl) ?_
  obtain ⟨hi1, hf⟩ := o_i hf
  refine va_iald (cA := cI) (n := 20) (f := s_xs) hx hb hK.1 hP 1 0 rfl rfl hi1 d_P_doubleArea_8 ?_
  refine lv_aload_n hx hb d_P_doubleArea_9 rfl (lv_at hl 0 rfl) ?_
  refine va_get (D := (dC, dI)) (ci := 1) (v := .ref aYs) (C := R_P) (T := T_P) (N := 5) hx hb hts in_P hown hK.1 hP 0 rfl rfl 1 (by decide) (hts _ bw_22) (fun _ h9 => h9) rfl d_P_doubleArea_10 ?_
  refine lv_iload_n hx hb d_P_doubleArea_13 rfl (lv_at hl 3 rfl) ?_
  obtain ⟨hi2, hf⟩ := o_i hf
  refine va_iald (cA := cI) (n := 20) (f := s_ys) hx hb hK.1 hP 2 0 rfl rfl hi2 d_P_doubleArea_14 ?_
  obtain ⟨r3, hv5, hf⟩ := o_b hf
  refine rc_l (va_runV (As := [.int x1, .int x2, .int (s_xs x3.toNatClampNeg), .int (s_ys x3.toNatClampNeg)]) (rest := []) ⟨hx, hb, hml, hown, hts⟩ (c_P_crossTo l dC dI cI cZ gP aXs aYs aTk aOr s_xs s_ys s_pn x1 x2 (s_xs x3.toNatClampNeg) (s_ys x3.toNatClampNeg) r3 hv5) (cwV 4 hts (gd_V bw_185 bw_186 bw_187 bw_2 bw_188) rfl rfl rfl ⟨rfl, hd_P_crossTo⟩ ⟨Nat.le_of_ble_eq_true rfl, Nat.le_of_ble_eq_true rfl⟩) (pv_r (wc := [(gP, .inr (1, [.ref aXs, .ref aYs, .ref aTk, .ref aOr, .int s_pn])), (aXs, .inl (cI, 20, .inl s_xs)), (aYs, .inl (cI, 20, .inl s_ys))]) hK hP [0, 1, 2] rfl 0 (ci := 1) rfl rfl) rfl rfl hl.1 rfl (lv_room (Nat.le_of_ble_eq_true rfl)) d_P_doubleArea_15 ⟨Nat.zero_le _, Nat.zero_le _⟩) ?_
  cases hf
  exact rr_l hx hb hr hlocks d_P_doubleArea_18
