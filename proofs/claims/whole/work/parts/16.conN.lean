set_option maxHeartbeats 4000000 in
set_option maxRecDepth 100000 in
theorem c_N_is (l : Launch) (dC : Nat → ClassId) (dI : Nat → Nat → Nat) (cI cZ : ClassId) (gN bTh bXs bYs bA bB bC bEd : Nat) (n_th : Nat → Int32) (n_kn : Int32) (n_ct : Int32) (n_rd : Int32) (x1 : Int32) (rv : Int32) (hf : f_N_is n_th x1 = some rv) : Met l y_N_is w_N_is ({ frames := 0, cells := 0, slots := 0, locals := 0 } : Room) (PcR dC dI cI cZ [.ref gN, .int x1] [(gN, .inr (4, [.ref bTh, .ref bXs, .ref bYs, .int n_kn, .int n_ct, .ref bA, .ref bB, .ref bC, .int n_rd, .ref bEd])), (bTh, .inl (cZ, 20, .inl n_th))]) (vp_Si (fun r => r = rv)) 0 0 (fun _ => False) := by
  refine Met.ofW (cc := b_N_is) (maxL := 2) (ret := (some .boolean)) (by decide) rfl ?_
  intro p e s m args below meth c s₁ B hml hv
  obtain ⟨rfl, hP, hK⟩ := hv
  have C0 : cx p s m _ meth c b_N_is (some .boolean) 2 R_N := ⟨B.exec, B.bytes, B.returns, hml, fun w hw => atoms_spec (ws := w_N_is) B.pre w (List.mem_cons_of_mem _ hw), findClass_of_methodNamed B.named, B.notSynchronized⟩
  obtain ⟨hx, hb, hr, hml, hts, hown, hlocks⟩ := id C0
  have hl := lv_entry ([.ref gN, .int x1]) (n := 2) (Nat.le_of_ble_eq_true rfl)
  rw [lg_entry_eq]
  generalize (lg_sl ([.ref gN, .int x1]) ++ List.replicate (2 - (lg_sl ([.ref gN, .int x1])).length) Slot.unset).toArray = ls at hl ⊢
  have hl : lv_has ls 2 [(0, .ref gN), (1, .int x1)] := hl
  refine lv_iload_n hx hb d_N_is_0 rfl (lv_at hl 1 rfl) ?_
  refine lv_if_lt (tgt := 23) hx hb d_N_is_1 (by decide) (fun hc1 => ?_) (fun hc1 => ?_)
  · have hf := o_t hf hc1
    refine lv_iconst (v := (0 : Int32)) hx hb d_N_is_23 rfl ?_
    cases hf
    exact rr_z hx hb hr hlocks rfl d_N_is_24
  · have hf := o_f hf hc1
    refine lv_iload_n hx hb d_N_is_4 rfl (lv_at hl 1 rfl) ?_
    refine lv_bipush (v := (20 : Int32)) hx hb d_N_is_5 rfl ?_
    refine lv_icmp_ge (tgt := 23) hx hb d_N_is_7 (by decide) (fun hc2 => ?_) (fun hc2 => ?_)
    · have hf := o_t hf hc2
      refine lv_iconst (v := (0 : Int32)) hx hb d_N_is_23 rfl ?_
      cases hf
      exact rr_z hx hb hr hlocks rfl d_N_is_24
    · have hf := o_f hf hc2
      refine lv_aload_n hx hb d_N_is_10 rfl (lv_at hl 0 rfl) ?_
      refine va_get (D := (dC, dI)) (ci := 4) (v := .ref bTh) (C := R_N) (T := T_N) (N := 10) hx hb hts in_N hown hK.1 hP 0 rfl rfl 0 (by decide) (hts _ bw_357) (fun _ h9 => h9) rfl d_N_is_11 ?_
      refine lv_iload_n hx hb d_N_is_14 rfl (lv_at hl 1 rfl) ?_
      obtain ⟨hi3, hf⟩ := o_i hf
      refine va_zald (cA := cZ) (n := 20) (f := n_th) hx hb hK.1 hP 1 1 rfl rfl hi3 d_N_is_15 ?_
      refine lv_if_eq (tgt := 23) hx hb d_N_is_16 (by decide) (fun hc4 => ?_) (fun hc4 => ?_)
      · have hf := o_t hf hc4
        refine lv_iconst (v := (0 : Int32)) hx hb d_N_is_23 rfl ?_
        cases hf
        exact rr_z hx hb hr hlocks rfl d_N_is_24
      · have hf := o_f hf hc4
        refine lv_iconst (v := (1 : Int32)) hx hb d_N_is_19 rfl ?_
        refine lv_goto (tgt := 24) hx hb d_N_is_20 (by decide) ?_
        cases hf
        exact rr_z hx hb hr hlocks rfl d_N_is_24
set_option maxHeartbeats 4000000 in
set_option maxRecDepth 100000 in
theorem c_N_outside (l : Launch) (dC : Nat → ClassId) (dI : Nat → Nat → Nat) (cI cZ : ClassId) (x0 : Int32) (x1 : Int32) (rv : Int32) (hf : f_N_outside x0 x1 = some rv) : Met l y_N_outside w_N_outside ({ frames := 0, cells := 0, slots := 0, locals := 0 } : Room) (PcR dC dI cI cZ [.int x0, .int x1] []) (vp_Si (fun r => r = rv)) 0 0 (fun _ => False) := by
  refine Met.ofW (cc := b_N_outside) (maxL := 2) (ret := (some .boolean)) (by decide) rfl ?_
  intro p e s m args below meth c s₁ B hml hv
  obtain ⟨rfl, hP, hK⟩ := hv
  have C0 : cx p s m _ meth c b_N_outside (some .boolean) 2 R_N := ⟨B.exec, B.bytes, B.returns, hml, fun w hw => atoms_spec (ws := w_N_outside) B.pre w (List.mem_cons_of_mem _ hw), findClass_of_methodNamed B.named, B.notSynchronized⟩
  obtain ⟨hx, hb, hr, hml, hts, hown, hlocks⟩ := id C0
  have hl := lv_entry ([.int x0, .int x1]) (n := 2) (Nat.le_of_ble_eq_true rfl)
  rw [lg_entry_eq]
  generalize (lg_sl ([.int x0, .int x1]) ++ List.replicate (2 - (lg_sl ([.int x0, .int x1])).length) Slot.unset).toArray = ls at hl ⊢
  have hl : lv_has ls 2 [(0, .int x0), (1, .int x1)] := hl
  refine lv_iload_n hx hb d_N_outside_0 rfl (lv_at hl 0 rfl) ?_
  refine lv_ldc (v := (-1000000 : Int32)) hx hb hown (hts _ bw_395) d_N_outside_1 ?_
  refine lv_icmp_lt (tgt := 24) hx hb d_N_outside_3 (by decide) (fun hc1 => ?_) (fun hc1 => ?_)
  · have hf := o_t hf hc1
    refine lv_iconst (v := (1 : Int32)) hx hb d_N_outside_24 rfl ?_
    refine lv_goto (tgt := 29) hx hb d_N_outside_25 (by decide) ?_
    cases hf
    exact rr_z hx hb hr hlocks rfl d_N_outside_29
  · have hf := o_f hf hc1
    refine lv_iload_n hx hb d_N_outside_6 rfl (lv_at hl 0 rfl) ?_
    refine lv_ldc (v := (1000000 : Int32)) hx hb hown (hts _ bw_396) d_N_outside_7 ?_
    refine lv_icmp_gt (tgt := 24) hx hb d_N_outside_9 (by decide) (fun hc2 => ?_) (fun hc2 => ?_)
    · have hf := o_t hf hc2
      refine lv_iconst (v := (1 : Int32)) hx hb d_N_outside_24 rfl ?_
      refine lv_goto (tgt := 29) hx hb d_N_outside_25 (by decide) ?_
      cases hf
      exact rr_z hx hb hr hlocks rfl d_N_outside_29
    · have hf := o_f hf hc2
      refine lv_iload_n hx hb d_N_outside_12 rfl (lv_at hl 1 rfl) ?_
      refine lv_ldc (v := (-1000000 : Int32)) hx hb hown (hts _ bw_395) d_N_outside_13 ?_
      refine lv_icmp_lt (tgt := 24) hx hb d_N_outside_15 (by decide) (fun hc3 => ?_) (fun hc3 => ?_)
      · have hf := o_t hf hc3
        refine lv_iconst (v := (1 : Int32)) hx hb d_N_outside_24 rfl ?_
        refine lv_goto (tgt := 29) hx hb d_N_outside_25 (by decide) ?_
        cases hf
        exact rr_z hx hb hr hlocks rfl d_N_outside_29
      · have hf := o_f hf hc3
        refine lv_iload_n hx hb d_N_outside_18 rfl (lv_at hl 1 rfl) ?_
        refine lv_ldc (v := (1000000 : Int32)) hx hb hown (hts _ bw_396) d_N_outside_19 ?_
        refine lv_icmp_le (tgt := 28) hx hb d_N_outside_21 (by decide) (fun hc4 => ?_) (fun hc4 => ?_)
        · have hf := o_t hf hc4
          refine lv_iconst (v := (0 : Int32)) hx hb d_N_outside_28 rfl ?_
          cases hf
          exact rr_z hx hb hr hlocks rfl d_N_outside_29
        · have hf := o_f hf hc4
          refine lv_iconst (v := (1 : Int32)) hx hb d_N_outside_24 rfl ?_
          refine lv_goto (tgt := 29) hx hb d_N_outside_25 (by decide) ?_
          cases hf
          exact rr_z hx hb hr hlocks rfl d_N_outside_29
set_option maxHeartbeats 4000000 in
set_option maxRecDepth 100000 in
theorem t_N_siteAt_L5 {p : Program} {l : Launch} {e : Env} {s : State} {m : MethodId} {args : Array Value} {below : List Frame} {meth : Method} {c : Code} {dC : Nat → ClassId} {dI : Nat → Nat → Nat} {cI cZ : ClassId} {gN bTh bXs bYs bA bB bC bEd : Nat} {n_th : Nat → Int32} {n_xs : Nat → Int32} {n_ys : Nat → Int32} {n_kn : Int32} {n_ct : Int32} {n_rd : Int32} {rv : Int32} (C0 : cx p s m args meth c b_N_siteAt (some .int) 5 R_N) (hK : gK dC dI cI cZ s) (hP : va_P (dC, dI) vwCl [(gN, .inr (4, [.ref bTh, .ref bXs, .ref bYs, .int n_kn, .int n_ct, .ref bA, .ref bB, .ref bC, .int n_rd, .ref bEd])), (bTh, .inl (cZ, 20, .inl n_th)), (bXs, .inl (cI, 20, .inl n_xs)), (bYs, .inl (cI, 20, .inl n_ys))] s.heap) : ∀ (n : Nat) (x1 : Int32) (x2 : Int32) (x3 : Int32) (x4 : Int32), f_N_siteAt_L5 n_th n_xs n_ys n x1 x2 x3 x4 = some rv → ∀ (ls : Array Slot), lv_has ls 5 [(0, .ref gN), (1, .int x1), (2, .int x2), (3, .int x3), (4, .int x4)] → W p l e (headSpec w_N_siteAt ({ frames := 0, cells := 0, slots := 0, locals := 0 } : Room)).room s m args below meth c s.heap [] 0 0 (MQ below (vp_Si (fun r => r = rv)) args s 0 0 (fun _ => False)) (F0 m 5 ls []) := by
  obtain ⟨hx, hb, hr, hml, hts, hown, hlocks⟩ := id C0
  intro n
  induction n with
  | zero =>
    intro x1 x2 x3 x4 hf
    exact (o_n hf).elim
  | succ n ih =>
    intro x1 x2 x3 x4 hf ls hl
    refine lv_iload hx hb d_N_siteAt_5 (lv_at hl 4 rfl) ?_
    refine lv_bipush (v := (20 : Int32)) hx hb d_N_siteAt_7 rfl ?_
    refine lv_icmp_ge (tgt := 57) hx hb d_N_siteAt_9 (by decide) (fun hc1 => ?_) (fun hc1 => ?_)
    · have hf := o_t hf hc1
      refine lv_iload_n hx hb d_N_siteAt_57 rfl (lv_at hl 3 rfl) ?_
      cases hf
      exact rr_i hx hb hr hlocks d_N_siteAt_58
    · have hf := o_f hf hc1
      refine lv_aload_n hx hb d_N_siteAt_12 rfl (lv_at hl 0 rfl) ?_
      refine va_get (D := (dC, dI)) (ci := 4) (v := .ref bTh) (C := R_N) (T := T_N) (N := 10) hx hb hts in_N hown hK.1 hP 0 rfl rfl 0 (by decide) (hts _ bw_357) (fun _ h9 => h9) rfl d_N_siteAt_13 ?_
      refine lv_iload hx hb d_N_siteAt_16 (lv_at hl 4 rfl) ?_
      obtain ⟨hi2, hf⟩ := o_i hf
      refine va_zald (cA := cZ) (n := 20) (f := n_th) hx hb hK.1 hP 1 1 rfl rfl hi2 d_N_siteAt_18 ?_
      refine lv_if_eq (tgt := 49) hx hb d_N_siteAt_19 (by decide) (fun hc3 => ?_) (fun hc3 => ?_)
      · have hf := o_t hf hc3
        refine lv_iload_n hx hb d_N_siteAt_49 rfl (lv_at hl 3 rfl) ?_
        refine lv_istore_n (lv' := [(3, .int x3), (0, .ref gN), (1, .int x1), (2, .int x2), (4, .int x4)]) hx hb d_N_siteAt_50 rfl hl (by decide) rfl (fun ls hl => ?_)
        refine lv_iinc (v := (x4 + 1)) (lv' := [(4, .int (x4 + 1)), (3, .int x3), (0, .ref gN), (1, .int x1), (2, .int x2)]) hx hb d_N_siteAt_51 hl (k := 4) rfl rfl (by decide) rfl (fun ls hl => ?_)
        refine lv_goto (tgt := 5) hx hb d_N_siteAt_54 (by decide) ?_
        exact ih x1 x2 x3 (x4 + 1) hf ls (lv_sub hl [2, 3, 4, 1, 0] rfl)
      · have hf := o_f hf hc3
        refine lv_aload_n hx hb d_N_siteAt_22 rfl (lv_at hl 0 rfl) ?_
        refine va_get (D := (dC, dI)) (ci := 4) (v := .ref bXs) (C := R_N) (T := T_N) (N := 10) hx hb hts in_N hown hK.1 hP 0 rfl rfl 1 (by decide) (hts _ bw_358) (fun _ h9 => h9) rfl d_N_siteAt_23 ?_
        refine lv_iload hx hb d_N_siteAt_26 (lv_at hl 4 rfl) ?_
        obtain ⟨hi4, hf⟩ := o_i hf
        refine va_iald (cA := cI) (n := 20) (f := n_xs) hx hb hK.1 hP 2 0 rfl rfl hi4 d_N_siteAt_28 ?_
        refine lv_iload_n hx hb d_N_siteAt_29 rfl (lv_at hl 1 rfl) ?_
        refine lv_icmp_ne (tgt := 49) hx hb d_N_siteAt_30 (by decide) (fun hc5 => ?_) (fun hc5 => ?_)
        · have hf := o_f hf hc5
          refine lv_iload_n hx hb d_N_siteAt_49 rfl (lv_at hl 3 rfl) ?_
          refine lv_istore_n (lv' := [(3, .int x3), (0, .ref gN), (1, .int x1), (2, .int x2), (4, .int x4)]) hx hb d_N_siteAt_50 rfl hl (by decide) rfl (fun ls hl => ?_)
          refine lv_iinc (v := (x4 + 1)) (lv' := [(4, .int (x4 + 1)), (3, .int x3), (0, .ref gN), (1, .int x1), (2, .int x2)]) hx hb d_N_siteAt_51 hl (k := 4) rfl rfl (by decide) rfl (fun ls hl => ?_)
          refine lv_goto (tgt := 5) hx hb d_N_siteAt_54 (by decide) ?_
          exact ih x1 x2 x3 (x4 + 1) hf ls (lv_sub hl [2, 3, 4, 1, 0] rfl)
        · have hf := o_t hf hc5
          refine lv_aload_n hx hb d_N_siteAt_33 rfl (lv_at hl 0 rfl) ?_
          refine va_get (D := (dC, dI)) (ci := 4) (v := .ref bYs) (C := R_N) (T := T_N) (N := 10) hx hb hts in_N hown hK.1 hP 0 rfl rfl 2 (by decide) (hts _ bw_359) (fun _ h9 => h9) rfl d_N_siteAt_34 ?_
          refine lv_iload hx hb d_N_siteAt_37 (lv_at hl 4 rfl) ?_
          obtain ⟨hi6, hf⟩ := o_i hf
          refine va_iald (cA := cI) (n := 20) (f := n_ys) hx hb hK.1 hP 3 0 rfl rfl hi6 d_N_siteAt_39 ?_
          refine lv_iload_n hx hb d_N_siteAt_40 rfl (lv_at hl 2 rfl) ?_
          refine lv_icmp_ne (tgt := 49) hx hb d_N_siteAt_41 (by decide) (fun hc7 => ?_) (fun hc7 => ?_)
          · have hf := o_f hf hc7
            refine lv_iload_n hx hb d_N_siteAt_49 rfl (lv_at hl 3 rfl) ?_
            refine lv_istore_n (lv' := [(3, .int x3), (0, .ref gN), (1, .int x1), (2, .int x2), (4, .int x4)]) hx hb d_N_siteAt_50 rfl hl (by decide) rfl (fun ls hl => ?_)
            refine lv_iinc (v := (x4 + 1)) (lv' := [(4, .int (x4 + 1)), (3, .int x3), (0, .ref gN), (1, .int x1), (2, .int x2)]) hx hb d_N_siteAt_51 hl (k := 4) rfl rfl (by decide) rfl (fun ls hl => ?_)
            refine lv_goto (tgt := 5) hx hb d_N_siteAt_54 (by decide) ?_
            exact ih x1 x2 x3 (x4 + 1) hf ls (lv_sub hl [2, 3, 4, 1, 0] rfl)
          · have hf := o_t hf hc7
            refine lv_iload hx hb d_N_siteAt_44 (lv_at hl 4 rfl) ?_
            refine lv_goto (tgt := 50) hx hb d_N_siteAt_46 (by decide) ?_
            refine lv_istore_n (lv' := [(3, .int x4), (0, .ref gN), (1, .int x1), (2, .int x2), (4, .int x4)]) hx hb d_N_siteAt_50 rfl hl (by decide) rfl (fun ls hl => ?_)
            refine lv_iinc (v := (x4 + 1)) (lv' := [(4, .int (x4 + 1)), (3, .int x4), (0, .ref gN), (1, .int x1), (2, .int x2)]) hx hb d_N_siteAt_51 hl (k := 4) rfl rfl (by decide) rfl (fun ls hl => ?_)
            refine lv_goto (tgt := 5) hx hb d_N_siteAt_54 (by decide) ?_
            exact ih x1 x2 x4 (x4 + 1) hf ls (lv_sub hl [2, 3, 4, 1, 0] rfl)
set_option maxHeartbeats 4000000 in
set_option maxRecDepth 100000 in
theorem c_N_siteAt (l : Launch) (dC : Nat → ClassId) (dI : Nat → Nat → Nat) (cI cZ : ClassId) (gN bTh bXs bYs bA bB bC bEd : Nat) (n_th : Nat → Int32) (n_xs : Nat → Int32) (n_ys : Nat → Int32) (n_kn : Int32) (n_ct : Int32) (n_rd : Int32) (x1 : Int32) (x2 : Int32) (rv : Int32) (hf : f_N_siteAt n_th n_xs n_ys x1 x2 = some rv) : Met l y_N_siteAt w_N_siteAt ({ frames := 0, cells := 0, slots := 0, locals := 0 } : Room) (PcR dC dI cI cZ [.ref gN, .int x1, .int x2] [(gN, .inr (4, [.ref bTh, .ref bXs, .ref bYs, .int n_kn, .int n_ct, .ref bA, .ref bB, .ref bC, .int n_rd, .ref bEd])), (bTh, .inl (cZ, 20, .inl n_th)), (bXs, .inl (cI, 20, .inl n_xs)), (bYs, .inl (cI, 20, .inl n_ys))]) (vp_Si (fun r => r = rv)) 0 0 (fun _ => False) := by
  refine Met.ofW (cc := b_N_siteAt) (maxL := 5) (ret := (some .int)) (by decide) rfl ?_
  intro p e s m args below meth c s₁ B hml hv
  obtain ⟨rfl, hP, hK⟩ := hv
  have C0 : cx p s m _ meth c b_N_siteAt (some .int) 5 R_N := ⟨B.exec, B.bytes, B.returns, hml, fun w hw => atoms_spec (ws := w_N_siteAt) B.pre w (List.mem_cons_of_mem _ hw), findClass_of_methodNamed B.named, B.notSynchronized⟩
  obtain ⟨hx, hb, hr, hml, hts, hown, hlocks⟩ := id C0
  have hl := lv_entry ([.ref gN, .int x1, .int x2]) (n := 5) (Nat.le_of_ble_eq_true rfl)
  rw [lg_entry_eq]
  generalize (lg_sl ([.ref gN, .int x1, .int x2]) ++ List.replicate (5 - (lg_sl ([.ref gN, .int x1, .int x2])).length) Slot.unset).toArray = ls at hl ⊢
  have hl : lv_has ls 5 [(0, .ref gN), (1, .int x1), (2, .int x2)] := hl
  refine lv_iconst (v := (-1 : Int32)) hx hb d_N_siteAt_0 rfl ?_
  refine lv_istore_n (lv' := [(3, .int (-1 : Int32)), (0, .ref gN), (1, .int x1), (2, .int x2)]) hx hb d_N_siteAt_1 rfl hl (by decide) rfl (fun ls hl => ?_)
  refine lv_iconst (v := (0 : Int32)) hx hb d_N_siteAt_2 rfl ?_
  refine lv_istore (lv' := [(4, .int (0 : Int32)), (3, .int (-1 : Int32)), (0, .ref gN), (1, .int x1), (2, .int x2)]) hx hb d_N_siteAt_3 hl (by decide) rfl (fun ls hl => ?_)
  exact t_N_siteAt_L5 C0 hK hP  600 x1 x2 (-1 : Int32) (0 : Int32) hf ls (lv_sub hl [2, 3, 4, 1, 0] rfl)
set_option maxHeartbeats 4000000 in
set_option maxRecDepth 100000 in
theorem t_N_insert_L25 {p : Program} {l : Launch} {e : Env} {s : State} {m : MethodId} {args : Array Value} {below : List Frame} {meth : Method} {c : Code} {dC : Nat → ClassId} {dI : Nat → Nat → Nat} {cI cZ : ClassId} {gN bTh bXs bYs bA bB bC bEd : Nat} {n_ct : Int32} {n_rd : Int32} {rv : Int32} {n_th' : Nat → Int32} {n_xs' : Nat → Int32} {n_ys' : Nat → Int32} {n_kn' : Int32} {A : Nat → Prop} (C0 : cx p s m args meth c b_N_insert (some .int) 4 R_N) (hK : gK dC dI cI cZ s) (hA : ∀ q, s.heap.size ≤ q → A q) : ∀ (n : Nat) (n_th : Nat → Int32) (n_xs : Nat → Int32) (n_ys : Nat → Int32) (n_kn : Int32) (x1 : Int32) (x2 : Int32) (x3 : Int32), f_N_insert_L25  n n_th n_xs n_ys n_kn x1 x2 x3 = some (rv, n_th', n_xs', n_ys', n_kn') → ∀ (H : Heap) (locs : List Loc), va_P (dC, dI) vwCl [(gN, .inr (4, [.ref bTh, .ref bXs, .ref bYs, .int n_kn, .int n_ct, .ref bA, .ref bB, .ref bC, .int n_rd, .ref bEd])), (bTh, .inl (cZ, 20, .inl n_th)), (bXs, .inl (cI, 20, .inl n_xs)), (bYs, .inl (cI, 20, .inl n_ys))] H → va_D A [(gN, .inr (4, [.ref bTh, .ref bXs, .ref bYs, .int n_kn, .int n_ct, .ref bA, .ref bB, .ref bC, .int n_rd, .ref bEd])), (bTh, .inl (cZ, 20, .inl n_th)), (bXs, .inl (cI, 20, .inl n_xs)), (bYs, .inl (cI, 20, .inl n_ys))] → va_S A s.heap H locs → ∀ (ls : Array Slot), lv_has ls 4 [(0, .ref gN), (1, .int x1), (2, .int x2), (3, .int x3)] → W p l e (headSpec w_N_insert ({ frames := 1, cells := 0, slots := 0, locals := 24 } : Room)).room s m args below meth c H locs 0 0 (MQ below (QwI dC dI A [(gN, .inr (4, [.ref bTh, .ref bXs, .ref bYs, .int n_kn', .int n_ct, .ref bA, .ref bB, .ref bC, .int n_rd, .ref bEd])), (bTh, .inl (cZ, 20, .inl n_th')), (bXs, .inl (cI, 20, .inl n_xs')), (bYs, .inl (cI, 20, .inl n_ys'))] rv) args s 0 0 A) (F0 m 25 ls []) := by
  obtain ⟨hx, hb, hr, hml, hts, hown, hlocks⟩ := id C0
  intro n
  induction n with
  | zero =>
    intro n_th n_xs n_ys n_kn x1 x2 x3 hf
    exact (o_n hf).elim
  | succ n ih =>
    intro n_th n_xs n_ys n_kn x1 x2 x3 hf H locs hP hD hS ls hl
    refine lv_iload_n hx hb d_N_insert_25 rfl (lv_at hl 3 rfl) ?_
    refine lv_bipush (v := (20 : Int32)) hx hb d_N_insert_26 rfl ?_
    refine lv_icmp_ge (tgt := 74) hx hb d_N_insert_28 (by decide) (fun hc1 => ?_) (fun hc1 => ?_)
    · have hf := o_t hf hc1
      refine lv_bipush (v := (-4 : Int32)) hx hb d_N_insert_74 rfl ?_
      cases hf
      exact wr_i hx hb hr hlocks hP hD hS d_N_insert_76
    · have hf := o_f hf hc1
      refine lv_aload_n hx hb d_N_insert_31 rfl (lv_at hl 0 rfl) ?_
      refine va_get (D := (dC, dI)) (ci := 4) (v := .ref bTh) (C := R_N) (T := T_N) (N := 10) hx hb hts in_N hown hK.1 hP 0 rfl rfl 0 (by decide) (hts _ bw_357) (fun _ h9 => h9) rfl d_N_insert_32 ?_
      refine lv_iload_n hx hb d_N_insert_35 rfl (lv_at hl 3 rfl) ?_
      obtain ⟨hi2, hf⟩ := o_i hf
      refine va_zald (cA := cZ) (n := 20) (f := n_th) hx hb hK.1 hP 1 1 rfl rfl hi2 d_N_insert_36 ?_
      refine lv_if_ne (tgt := 68) hx hb d_N_insert_37 (by decide) (fun hc3 => ?_) (fun hc3 => ?_)
      · have hf := o_f hf hc3
        refine lv_iinc (v := (x3 + 1)) (lv' := [(3, .int (x3 + 1)), (0, .ref gN), (1, .int x1), (2, .int x2)]) hx hb d_N_insert_68 hl (k := 3) rfl rfl (by decide) rfl (fun ls hl => ?_)
        refine lv_goto (tgt := 25) hx hb d_N_insert_71 (by decide) ?_
        exact ih n_th n_xs n_ys n_kn x1 x2 (x3 + 1) hf _ _ hP hD hS ls (lv_sub hl [1, 2, 3, 0] rfl)
      · have hf := o_t hf hc3
        refine lv_aload_n hx hb d_N_insert_40 rfl (lv_at hl 0 rfl) ?_
        refine va_get (D := (dC, dI)) (ci := 4) (v := .ref bTh) (C := R_N) (T := T_N) (N := 10) hx hb hts in_N hown hK.1 hP 0 rfl rfl 0 (by decide) (hts _ bw_357) (fun _ h9 => h9) rfl d_N_insert_41 ?_
        refine lv_iload_n hx hb d_N_insert_44 rfl (lv_at hl 3 rfl) ?_
        refine lv_iconst (v := (1 : Int32)) hx hb d_N_insert_45 rfl ?_
        obtain ⟨hi4, hf⟩ := o_i hf
        refine va_zast (cA := cZ) (n := 20) (f := n_th) hx hb hK.1 hP hD hS 1 1 rfl rfl hi4 d_N_insert_46 (fun H locs hP hD hS => ?_)
        have hP : va_P (dC, dI) vwCl [(gN, .inr (4, [.ref bTh, .ref bXs, .ref bYs, .int n_kn, .int n_ct, .ref bA, .ref bB, .ref bC, .int n_rd, .ref bEd])), (bTh, .inl (cZ, 20, .inl (upd n_th x3.toNatClampNeg (1 : Int32)))), (bXs, .inl (cI, 20, .inl n_xs)), (bYs, .inl (cI, 20, .inl n_ys))] H := hP
        have hD : va_D A [(gN, .inr (4, [.ref bTh, .ref bXs, .ref bYs, .int n_kn, .int n_ct, .ref bA, .ref bB, .ref bC, .int n_rd, .ref bEd])), (bTh, .inl (cZ, 20, .inl (upd n_th x3.toNatClampNeg (1 : Int32)))), (bXs, .inl (cI, 20, .inl n_xs)), (bYs, .inl (cI, 20, .inl n_ys))] := hD
        refine lv_aload_n hx hb d_N_insert_47 rfl (lv_at hl 0 rfl) ?_
        refine va_get (D := (dC, dI)) (ci := 4) (v := .ref bXs) (C := R_N) (T := T_N) (N := 10) hx hb hts in_N hown hK.1 hP 0 rfl rfl 1 (by decide) (hts _ bw_358) (fun _ h9 => h9) rfl d_N_insert_48 ?_
        refine lv_iload_n hx hb d_N_insert_51 rfl (lv_at hl 3 rfl) ?_
        refine lv_iload_n hx hb d_N_insert_52 rfl (lv_at hl 1 rfl) ?_
        obtain ⟨hi5, hf⟩ := o_i hf
        refine va_iast (cA := cI) (n := 20) (f := n_xs) hx hb hK.1 hP hD hS 2 0 rfl rfl hi5 d_N_insert_53 (fun H locs hP hD hS => ?_)
        have hP : va_P (dC, dI) vwCl [(gN, .inr (4, [.ref bTh, .ref bXs, .ref bYs, .int n_kn, .int n_ct, .ref bA, .ref bB, .ref bC, .int n_rd, .ref bEd])), (bTh, .inl (cZ, 20, .inl (upd n_th x3.toNatClampNeg (1 : Int32)))), (bXs, .inl (cI, 20, .inl (upd n_xs x3.toNatClampNeg x1))), (bYs, .inl (cI, 20, .inl n_ys))] H := hP
        have hD : va_D A [(gN, .inr (4, [.ref bTh, .ref bXs, .ref bYs, .int n_kn, .int n_ct, .ref bA, .ref bB, .ref bC, .int n_rd, .ref bEd])), (bTh, .inl (cZ, 20, .inl (upd n_th x3.toNatClampNeg (1 : Int32)))), (bXs, .inl (cI, 20, .inl (upd n_xs x3.toNatClampNeg x1))), (bYs, .inl (cI, 20, .inl n_ys))] := hD
        refine lv_aload_n hx hb d_N_insert_54 rfl (lv_at hl 0 rfl) ?_
        refine va_get (D := (dC, dI)) (ci := 4) (v := .ref bYs) (C := R_N) (T := T_N) (N := 10) hx hb hts in_N hown hK.1 hP 0 rfl rfl 2 (by decide) (hts _ bw_359) (fun _ h9 => h9) rfl d_N_insert_55 ?_
        refine lv_iload_n hx hb d_N_insert_58 rfl (lv_at hl 3 rfl) ?_
        refine lv_iload_n hx hb d_N_insert_59 rfl (lv_at hl 2 rfl) ?_
        obtain ⟨hi6, hf⟩ := o_i hf
        refine va_iast (cA := cI) (n := 20) (f := n_ys) hx hb hK.1 hP hD hS 3 0 rfl rfl hi6 d_N_insert_60 (fun H locs hP hD hS => ?_)
        have hP : va_P (dC, dI) vwCl [(gN, .inr (4, [.ref bTh, .ref bXs, .ref bYs, .int n_kn, .int n_ct, .ref bA, .ref bB, .ref bC, .int n_rd, .ref bEd])), (bTh, .inl (cZ, 20, .inl (upd n_th x3.toNatClampNeg (1 : Int32)))), (bXs, .inl (cI, 20, .inl (upd n_xs x3.toNatClampNeg x1))), (bYs, .inl (cI, 20, .inl (upd n_ys x3.toNatClampNeg x2)))] H := hP
        have hD : va_D A [(gN, .inr (4, [.ref bTh, .ref bXs, .ref bYs, .int n_kn, .int n_ct, .ref bA, .ref bB, .ref bC, .int n_rd, .ref bEd])), (bTh, .inl (cZ, 20, .inl (upd n_th x3.toNatClampNeg (1 : Int32)))), (bXs, .inl (cI, 20, .inl (upd n_xs x3.toNatClampNeg x1))), (bYs, .inl (cI, 20, .inl (upd n_ys x3.toNatClampNeg x2)))] := hD
        refine lv_aload_n hx hb d_N_insert_61 rfl (lv_at hl 0 rfl) ?_
        refine lv_iconst (v := (0 : Int32)) hx hb d_N_insert_62 rfl ?_
        refine va_put (D := (dC, dI)) (ci := 4) (v := .int (0 : Int32)) (ty := .boolean) (C := R_N) (T := T_N) (N := 10) hx hb hts in_N ty_N tok_N nok_N hown hK.1 hP hD hS 0 rfl rfl 3 (by decide) (hts _ bw_360) (fun _ h9 => h9) rfl (by decide +kernel) rfl rfl (Nat.le_of_ble_eq_true rfl) d_N_insert_63 (fun H locs hP hD hS => ?_)
        have hP : va_P (dC, dI) vwCl [(gN, .inr (4, [.ref bTh, .ref bXs, .ref bYs, .int (0 : Int32), .int n_ct, .ref bA, .ref bB, .ref bC, .int n_rd, .ref bEd])), (bTh, .inl (cZ, 20, .inl (upd n_th x3.toNatClampNeg (1 : Int32)))), (bXs, .inl (cI, 20, .inl (upd n_xs x3.toNatClampNeg x1))), (bYs, .inl (cI, 20, .inl (upd n_ys x3.toNatClampNeg x2)))] H := hP
        have hD : va_D A [(gN, .inr (4, [.ref bTh, .ref bXs, .ref bYs, .int (0 : Int32), .int n_ct, .ref bA, .ref bB, .ref bC, .int n_rd, .ref bEd])), (bTh, .inl (cZ, 20, .inl (upd n_th x3.toNatClampNeg (1 : Int32)))), (bXs, .inl (cI, 20, .inl (upd n_xs x3.toNatClampNeg x1))), (bYs, .inl (cI, 20, .inl (upd n_ys x3.toNatClampNeg x2)))] := hD
        refine lv_iload_n hx hb d_N_insert_66 rfl (lv_at hl 3 rfl) ?_
        cases hf
        exact wr_i hx hb hr hlocks hP hD hS d_N_insert_67
set_option maxHeartbeats 4000000 in
set_option maxRecDepth 100000 in
theorem t_N_insert_e {p : Program} {l : Launch} {e : Env} {s : State} {m : MethodId} {args : Array Value} {below : List Frame} {meth : Method} {c : Code} {dC : Nat → ClassId} {dI : Nat → Nat → Nat} {cI cZ : ClassId} {gN bTh bXs bYs bA bB bC bEd : Nat} {n_ct : Int32} {n_rd : Int32} {rv : Int32} {n_th' : Nat → Int32} {n_xs' : Nat → Int32} {n_ys' : Nat → Int32} {n_kn' : Int32} {A : Nat → Prop} (C0 : cx p s m args meth c b_N_insert (some .int) 4 R_N) (hK : gK dC dI cI cZ s) (hA : ∀ q, s.heap.size ≤ q → A q) : ∀ (n_th : Nat → Int32) (n_xs : Nat → Int32) (n_ys : Nat → Int32) (n_kn : Int32) (x1 : Int32) (x2 : Int32), f_N_insert n_th n_xs n_ys n_kn x1 x2 = some (rv, n_th', n_xs', n_ys', n_kn') → ∀ (H : Heap) (locs : List Loc), va_P (dC, dI) vwCl [(gN, .inr (4, [.ref bTh, .ref bXs, .ref bYs, .int n_kn, .int n_ct, .ref bA, .ref bB, .ref bC, .int n_rd, .ref bEd])), (bTh, .inl (cZ, 20, .inl n_th)), (bXs, .inl (cI, 20, .inl n_xs)), (bYs, .inl (cI, 20, .inl n_ys))] H → va_D A [(gN, .inr (4, [.ref bTh, .ref bXs, .ref bYs, .int n_kn, .int n_ct, .ref bA, .ref bB, .ref bC, .int n_rd, .ref bEd])), (bTh, .inl (cZ, 20, .inl n_th)), (bXs, .inl (cI, 20, .inl n_xs)), (bYs, .inl (cI, 20, .inl n_ys))] → va_S A s.heap H locs → ∀ (ls : Array Slot), lv_has ls 4 [(0, .ref gN), (1, .int x1), (2, .int x2)] → W p l e (headSpec w_N_insert ({ frames := 1, cells := 0, slots := 0, locals := 24 } : Room)).room s m args below meth c H locs 0 0 (MQ below (QwI dC dI A [(gN, .inr (4, [.ref bTh, .ref bXs, .ref bYs, .int n_kn', .int n_ct, .ref bA, .ref bB, .ref bC, .int n_rd, .ref bEd])), (bTh, .inl (cZ, 20, .inl n_th')), (bXs, .inl (cI, 20, .inl n_xs')), (bYs, .inl (cI, 20, .inl n_ys'))] rv) args s 0 0 A) (F0 m 0 ls []) := by
  obtain ⟨hx, hb, hr, hml, hts, hown, hlocks⟩ := id C0
  intro n_th n_xs n_ys n_kn x1 x2 hf H locs hP hD hS ls hl
  refine lv_iload_n hx hb d_N_insert_0 rfl (lv_at hl 1 rfl) ?_
  refine lv_iload_n hx hb d_N_insert_1 rfl (lv_at hl 2 rfl) ?_
  obtain ⟨r7, hv9, hf⟩ := o_b hf
  refine rc_i (va_runS (As := [.int x1, .int x2]) (rest := []) ⟨hx, hb, hml, hown, hts⟩ (c_N_outside l dC dI cI cZ x1 x2 r7 hv9) (va_cwS 2 hts (gd_S bw_392 bw_393 bw_5 bw_394) rfl rfl rfl hd_N_outside ⟨Nat.le_of_ble_eq_true rfl, Nat.le_of_ble_eq_true rfl⟩) (ps_r (wc := []) hK hP [] rfl) rfl rfl hl.1 rfl (lv_room (Nat.le_of_ble_eq_true rfl)) d_N_insert_2 ⟨Nat.zero_le _, Nat.zero_le _⟩) ?_
  refine lv_if_eq (tgt := 11) hx hb d_N_insert_5 (by decide) (fun hc10 => ?_) (fun hc10 => ?_)
  · have hf := o_t hf hc10
    refine lv_aload_n hx hb d_N_insert_11 rfl (lv_at hl 0 rfl) ?_
    refine lv_iload_n hx hb d_N_insert_12 rfl (lv_at hl 1 rfl) ?_
    refine lv_iload_n hx hb d_N_insert_13 rfl (lv_at hl 2 rfl) ?_
    obtain ⟨r11, hv13, hf⟩ := o_b hf
    refine rc_i (va_runV (As := [.int x1, .int x2]) (rest := []) ⟨hx, hb, hml, hown, hts⟩ (c_N_siteAt l dC dI cI cZ gN bTh bXs bYs bA bB bC bEd n_th n_xs n_ys n_kn n_ct n_rd x1 x2 r11 hv13) (cwV 2 hts (gd_V bw_397 bw_399 bp_13 bw_5 bw_400) rfl rfl rfl ⟨rfl, hd_N_siteAt⟩ ⟨Nat.le_of_ble_eq_true rfl, Nat.le_of_ble_eq_true rfl⟩) (pv_r (wc := [(gN, .inr (4, [.ref bTh, .ref bXs, .ref bYs, .int n_kn, .int n_ct, .ref bA, .ref bB, .ref bC, .int n_rd, .ref bEd])), (bTh, .inl (cZ, 20, .inl n_th)), (bXs, .inl (cI, 20, .inl n_xs)), (bYs, .inl (cI, 20, .inl n_ys))]) hK hP [0, 1, 2, 3] rfl 0 (ci := 4) rfl rfl) rfl rfl hl.1 rfl (lv_room (Nat.le_of_ble_eq_true rfl)) d_N_insert_14 ⟨Nat.zero_le _, Nat.zero_le _⟩) ?_
    refine lv_if_lt (tgt := 23) hx hb d_N_insert_17 (by decide) (fun hc14 => ?_) (fun hc14 => ?_)
    · have hf := o_t hf hc14
      refine lv_iconst (v := (0 : Int32)) hx hb d_N_insert_23 rfl ?_
      refine lv_istore_n (lv' := [(3, .int (0 : Int32)), (0, .ref gN), (1, .int x1), (2, .int x2)]) hx hb d_N_insert_24 rfl hl (by decide) rfl (fun ls hl => ?_)
      exact t_N_insert_L25 C0 hK hA  600 n_th n_xs n_ys n_kn x1 x2 (0 : Int32) hf _ _ hP hD hS ls (lv_sub hl [1, 2, 3, 0] rfl)
    · have hf := o_f hf hc14
      refine lv_bipush (v := (-3 : Int32)) hx hb d_N_insert_20 rfl ?_
      cases hf
      exact wr_i hx hb hr hlocks hP hD hS d_N_insert_22
  · have hf := o_f hf hc10
    refine lv_bipush (v := (-2 : Int32)) hx hb d_N_insert_8 rfl ?_
    cases hf
    exact wr_i hx hb hr hlocks hP hD hS d_N_insert_10
set_option maxHeartbeats 4000000 in
set_option maxRecDepth 100000 in
theorem c_N_insert (l : Launch) (dC : Nat → ClassId) (dI : Nat → Nat → Nat) (cI cZ : ClassId) (gN bTh bXs bYs bA bB bC bEd : Nat) (n_th : Nat → Int32) (n_xs : Nat → Int32) (n_ys : Nat → Int32) (n_kn : Int32) (n_ct : Int32) (n_rd : Int32) (x1 : Int32) (x2 : Int32) (rv : Int32) (n_th' : Nat → Int32) (n_xs' : Nat → Int32) (n_ys' : Nat → Int32) (n_kn' : Int32) (sz : Nat) (hf : f_N_insert n_th n_xs n_ys n_kn x1 x2 = some (rv, n_th', n_xs', n_ys', n_kn')) : Met l y_N_insert w_N_insert ({ frames := 1, cells := 0, slots := 0, locals := 24 } : Room) (PcW dC dI cI cZ [.ref gN, .int x1, .int x2] [(gN, .inr (4, [.ref bTh, .ref bXs, .ref bYs, .int n_kn, .int n_ct, .ref bA, .ref bB, .ref bC, .int n_rd, .ref bEd])), (bTh, .inl (cZ, 20, .inl n_th)), (bXs, .inl (cI, 20, .inl n_xs)), (bYs, .inl (cI, 20, .inl n_ys))] sz) (QwI dC dI (va_A [(gN, .inr (4, [.ref bTh, .ref bXs, .ref bYs, .int n_kn, .int n_ct, .ref bA, .ref bB, .ref bC, .int n_rd, .ref bEd])), (bTh, .inl (cZ, 20, .inl n_th)), (bXs, .inl (cI, 20, .inl n_xs)), (bYs, .inl (cI, 20, .inl n_ys))] sz) [(gN, .inr (4, [.ref bTh, .ref bXs, .ref bYs, .int n_kn', .int n_ct, .ref bA, .ref bB, .ref bC, .int n_rd, .ref bEd])), (bTh, .inl (cZ, 20, .inl n_th')), (bXs, .inl (cI, 20, .inl n_xs')), (bYs, .inl (cI, 20, .inl n_ys'))] rv) 0 0 (va_A [(gN, .inr (4, [.ref bTh, .ref bXs, .ref bYs, .int n_kn, .int n_ct, .ref bA, .ref bB, .ref bC, .int n_rd, .ref bEd])), (bTh, .inl (cZ, 20, .inl n_th)), (bXs, .inl (cI, 20, .inl n_xs)), (bYs, .inl (cI, 20, .inl n_ys))] sz) := by
  refine Met.ofW (cc := b_N_insert) (maxL := 4) (ret := (some .int)) (by decide) rfl ?_
  intro p e s m args below meth c s₁ B hml hv
  obtain ⟨rfl, hsz, hP, hK, hD0⟩ := hv
  have C0 : cx p s m _ meth c b_N_insert (some .int) 4 R_N := ⟨B.exec, B.bytes, B.returns, hml, fun w hw => atoms_spec (ws := w_N_insert) B.pre w (List.mem_cons_of_mem _ hw), findClass_of_methodNamed B.named, B.notSynchronized⟩
  subst hsz
  have hD := hD0.self (sz := s.heap.size)
  generalize hAe : va_A [(gN, .inr (4, [.ref bTh, .ref bXs, .ref bYs, .int n_kn, .int n_ct, .ref bA, .ref bB, .ref bC, .int n_rd, .ref bEd])), (bTh, .inl (cZ, 20, .inl n_th)), (bXs, .inl (cI, 20, .inl n_xs)), (bYs, .inl (cI, 20, .inl n_ys))] s.heap.size = A at hD ⊢
  have hA : ∀ q : Nat, s.heap.size ≤ q → A q := fun q h => by rw [← hAe]; exact Or.inr h
  have hl := lv_entry ([.ref gN, .int x1, .int x2]) (n := 4) (Nat.le_of_ble_eq_true rfl)
  rw [lg_entry_eq]
  generalize (lg_sl ([.ref gN, .int x1, .int x2]) ++ List.replicate (4 - (lg_sl ([.ref gN, .int x1, .int x2])).length) Slot.unset).toArray = ls at hl ⊢
  have hl : lv_has ls 4 [(0, .ref gN), (1, .int x1), (2, .int x2)] := hl
  exact t_N_insert_e C0 hK hA n_th n_xs n_ys n_kn x1 x2 hf _ _ hP hD va_S.rf ls hl
set_option maxHeartbeats 4000000 in
set_option maxRecDepth 100000 in
theorem t_N_remove_e {p : Program} {l : Launch} {e : Env} {s : State} {m : MethodId} {args : Array Value} {below : List Frame} {meth : Method} {c : Code} {dC : Nat → ClassId} {dI : Nat → Nat → Nat} {cI cZ : ClassId} {gN bTh bXs bYs bA bB bC bEd : Nat} {n_ct : Int32} {n_rd : Int32} {rv : Int32} {n_th' : Nat → Int32} {n_kn' : Int32} {A : Nat → Prop} (C0 : cx p s m args meth c b_N_remove (some .boolean) 2 R_N) (hK : gK dC dI cI cZ s) (hA : ∀ q, s.heap.size ≤ q → A q) : ∀ (n_th : Nat → Int32) (n_kn : Int32) (x1 : Int32), f_N_remove n_th n_kn x1 = some (rv, n_th', n_kn') → ∀ (H : Heap) (locs : List Loc), va_P (dC, dI) vwCl [(gN, .inr (4, [.ref bTh, .ref bXs, .ref bYs, .int n_kn, .int n_ct, .ref bA, .ref bB, .ref bC, .int n_rd, .ref bEd])), (bTh, .inl (cZ, 20, .inl n_th))] H → va_D A [(gN, .inr (4, [.ref bTh, .ref bXs, .ref bYs, .int n_kn, .int n_ct, .ref bA, .ref bB, .ref bC, .int n_rd, .ref bEd])), (bTh, .inl (cZ, 20, .inl n_th))] → va_S A s.heap H locs → ∀ (ls : Array Slot), lv_has ls 2 [(0, .ref gN), (1, .int x1)] → W p l e (headSpec w_N_remove ({ frames := 1, cells := 0, slots := 0, locals := 21 } : Room)).room s m args below meth c H locs 0 0 (MQ below (QwI dC dI A [(gN, .inr (4, [.ref bTh, .ref bXs, .ref bYs, .int n_kn', .int n_ct, .ref bA, .ref bB, .ref bC, .int n_rd, .ref bEd])), (bTh, .inl (cZ, 20, .inl n_th'))] rv) args s 0 0 A) (F0 m 0 ls []) := by
  obtain ⟨hx, hb, hr, hml, hts, hown, hlocks⟩ := id C0
  intro n_th n_kn x1 hf H locs hP hD hS ls hl
  refine lv_aload_n hx hb d_N_remove_0 rfl (lv_at hl 0 rfl) ?_
  refine lv_iload_n hx hb d_N_remove_1 rfl (lv_at hl 1 rfl) ?_
  obtain ⟨r1, hv3, hf⟩ := o_b hf
  refine rc_i (va_runV (As := [.int x1]) (rest := []) ⟨hx, hb, hml, hown, hts⟩ (c_N_is l dC dI cI cZ gN bTh bXs bYs bA bB bC bEd n_th n_kn n_ct n_rd x1 r1 hv3) (cwV 1 hts (gd_V bw_405 bw_407 bp_14 bw_5 bw_408) rfl rfl rfl ⟨rfl, hd_N_is⟩ ⟨Nat.le_of_ble_eq_true rfl, Nat.le_of_ble_eq_true rfl⟩) (pv_r (wc := [(gN, .inr (4, [.ref bTh, .ref bXs, .ref bYs, .int n_kn, .int n_ct, .ref bA, .ref bB, .ref bC, .int n_rd, .ref bEd])), (bTh, .inl (cZ, 20, .inl n_th))]) hK hP [0, 1] rfl 0 (ci := 4) rfl rfl) rfl rfl hl.1 rfl (lv_room (Nat.le_of_ble_eq_true rfl)) d_N_remove_2 ⟨Nat.zero_le _, Nat.zero_le _⟩) ?_
  refine lv_if_ne (tgt := 10) hx hb d_N_remove_5 (by decide) (fun hc4 => ?_) (fun hc4 => ?_)
  · have hf := o_f hf hc4
    refine lv_aload_n hx hb d_N_remove_10 rfl (lv_at hl 0 rfl) ?_
    refine va_get (D := (dC, dI)) (ci := 4) (v := .ref bTh) (C := R_N) (T := T_N) (N := 10) hx hb hts in_N hown hK.1 hP 0 rfl rfl 0 (by decide) (hts _ bw_357) (fun _ h9 => h9) rfl d_N_remove_11 ?_
    refine lv_iload_n hx hb d_N_remove_14 rfl (lv_at hl 1 rfl) ?_
    refine lv_iconst (v := (0 : Int32)) hx hb d_N_remove_15 rfl ?_
    obtain ⟨hi5, hf⟩ := o_i hf
    refine va_zast (cA := cZ) (n := 20) (f := n_th) hx hb hK.1 hP hD hS 1 1 rfl rfl hi5 d_N_remove_16 (fun H locs hP hD hS => ?_)
    have hP : va_P (dC, dI) vwCl [(gN, .inr (4, [.ref bTh, .ref bXs, .ref bYs, .int n_kn, .int n_ct, .ref bA, .ref bB, .ref bC, .int n_rd, .ref bEd])), (bTh, .inl (cZ, 20, .inl (upd n_th x1.toNatClampNeg (0 : Int32))))] H := hP
    have hD : va_D A [(gN, .inr (4, [.ref bTh, .ref bXs, .ref bYs, .int n_kn, .int n_ct, .ref bA, .ref bB, .ref bC, .int n_rd, .ref bEd])), (bTh, .inl (cZ, 20, .inl (upd n_th x1.toNatClampNeg (0 : Int32))))] := hD
    refine lv_aload_n hx hb d_N_remove_17 rfl (lv_at hl 0 rfl) ?_
    refine lv_iconst (v := (0 : Int32)) hx hb d_N_remove_18 rfl ?_
    refine va_put (D := (dC, dI)) (ci := 4) (v := .int (0 : Int32)) (ty := .boolean) (C := R_N) (T := T_N) (N := 10) hx hb hts in_N ty_N tok_N nok_N hown hK.1 hP hD hS 0 rfl rfl 3 (by decide) (hts _ bw_360) (fun _ h9 => h9) rfl (by decide +kernel) rfl rfl (Nat.le_of_ble_eq_true rfl) d_N_remove_19 (fun H locs hP hD hS => ?_)
    have hP : va_P (dC, dI) vwCl [(gN, .inr (4, [.ref bTh, .ref bXs, .ref bYs, .int (0 : Int32), .int n_ct, .ref bA, .ref bB, .ref bC, .int n_rd, .ref bEd])), (bTh, .inl (cZ, 20, .inl (upd n_th x1.toNatClampNeg (0 : Int32))))] H := hP
    have hD : va_D A [(gN, .inr (4, [.ref bTh, .ref bXs, .ref bYs, .int (0 : Int32), .int n_ct, .ref bA, .ref bB, .ref bC, .int n_rd, .ref bEd])), (bTh, .inl (cZ, 20, .inl (upd n_th x1.toNatClampNeg (0 : Int32))))] := hD
    refine lv_iconst (v := (1 : Int32)) hx hb d_N_remove_22 rfl ?_
    cases hf
    exact wr_z hx hb hr hlocks rfl hP hD hS d_N_remove_23
  · have hf := o_t hf hc4
    refine lv_iconst (v := (0 : Int32)) hx hb d_N_remove_8 rfl ?_
    cases hf
    exact wr_z hx hb hr hlocks rfl hP hD hS d_N_remove_9
set_option maxHeartbeats 4000000 in
set_option maxRecDepth 100000 in
theorem c_N_remove (l : Launch) (dC : Nat → ClassId) (dI : Nat → Nat → Nat) (cI cZ : ClassId) (gN bTh bXs bYs bA bB bC bEd : Nat) (n_th : Nat → Int32) (n_kn : Int32) (n_ct : Int32) (n_rd : Int32) (x1 : Int32) (rv : Int32) (n_th' : Nat → Int32) (n_kn' : Int32) (sz : Nat) (hf : f_N_remove n_th n_kn x1 = some (rv, n_th', n_kn')) : Met l y_N_remove w_N_remove ({ frames := 1, cells := 0, slots := 0, locals := 21 } : Room) (PcW dC dI cI cZ [.ref gN, .int x1] [(gN, .inr (4, [.ref bTh, .ref bXs, .ref bYs, .int n_kn, .int n_ct, .ref bA, .ref bB, .ref bC, .int n_rd, .ref bEd])), (bTh, .inl (cZ, 20, .inl n_th))] sz) (QwI dC dI (va_A [(gN, .inr (4, [.ref bTh, .ref bXs, .ref bYs, .int n_kn, .int n_ct, .ref bA, .ref bB, .ref bC, .int n_rd, .ref bEd])), (bTh, .inl (cZ, 20, .inl n_th))] sz) [(gN, .inr (4, [.ref bTh, .ref bXs, .ref bYs, .int n_kn', .int n_ct, .ref bA, .ref bB, .ref bC, .int n_rd, .ref bEd])), (bTh, .inl (cZ, 20, .inl n_th'))] rv) 0 0 (va_A [(gN, .inr (4, [.ref bTh, .ref bXs, .ref bYs, .int n_kn, .int n_ct, .ref bA, .ref bB, .ref bC, .int n_rd, .ref bEd])), (bTh, .inl (cZ, 20, .inl n_th))] sz) := by
  refine Met.ofW (cc := b_N_remove) (maxL := 2) (ret := (some .boolean)) (by decide) rfl ?_
  intro p e s m args below meth c s₁ B hml hv
  obtain ⟨rfl, hsz, hP, hK, hD0⟩ := hv
  have C0 : cx p s m _ meth c b_N_remove (some .boolean) 2 R_N := ⟨B.exec, B.bytes, B.returns, hml, fun w hw => atoms_spec (ws := w_N_remove) B.pre w (List.mem_cons_of_mem _ hw), findClass_of_methodNamed B.named, B.notSynchronized⟩
  subst hsz
  have hD := hD0.self (sz := s.heap.size)
  generalize hAe : va_A [(gN, .inr (4, [.ref bTh, .ref bXs, .ref bYs, .int n_kn, .int n_ct, .ref bA, .ref bB, .ref bC, .int n_rd, .ref bEd])), (bTh, .inl (cZ, 20, .inl n_th))] s.heap.size = A at hD ⊢
  have hA : ∀ q : Nat, s.heap.size ≤ q → A q := fun q h => by rw [← hAe]; exact Or.inr h
  have hl := lv_entry ([.ref gN, .int x1]) (n := 2) (Nat.le_of_ble_eq_true rfl)
  rw [lg_entry_eq]
  generalize (lg_sl ([.ref gN, .int x1]) ++ List.replicate (2 - (lg_sl ([.ref gN, .int x1])).length) Slot.unset).toArray = ls at hl ⊢
  have hl : lv_has ls 2 [(0, .ref gN), (1, .int x1)] := hl
  exact t_N_remove_e C0 hK hA n_th n_kn x1 hf _ _ hP hD va_S.rf ls hl
set_option maxHeartbeats 4000000 in
set_option maxRecDepth 100000 in
theorem t_N_move_b43 {p : Program} {l : Launch} {e : Env} {s : State} {m : MethodId} {args : Array Value} {below : List Frame} {meth : Method} {c : Code} {dC : Nat → ClassId} {dI : Nat → Nat → Nat} {cI cZ : ClassId} {gN bTh bXs bYs bA bB bC bEd : Nat} {n_th : Nat → Int32} {n_ct : Int32} {n_rd : Int32} {rv : Int32} {n_xs' : Nat → Int32} {n_ys' : Nat → Int32} {n_kn' : Int32} {A : Nat → Prop} (C0 : cx p s m args meth c b_N_move (some .int) 5 R_N) (hK : gK dC dI cI cZ s) (hA : ∀ q, s.heap.size ≤ q → A q) : ∀ (n_xs : Nat → Int32) (n_ys : Nat → Int32) (n_kn : Int32) (x1 : Int32) (x2 : Int32) (x3 : Int32), f_N_move_b43 n_th n_xs n_ys n_kn x1 x2 x3 = some (rv, n_xs', n_ys', n_kn') → ∀ (H : Heap) (locs : List Loc), va_P (dC, dI) vwCl [(gN, .inr (4, [.ref bTh, .ref bXs, .ref bYs, .int n_kn, .int n_ct, .ref bA, .ref bB, .ref bC, .int n_rd, .ref bEd])), (bTh, .inl (cZ, 20, .inl n_th)), (bXs, .inl (cI, 20, .inl n_xs)), (bYs, .inl (cI, 20, .inl n_ys))] H → va_D A [(gN, .inr (4, [.ref bTh, .ref bXs, .ref bYs, .int n_kn, .int n_ct, .ref bA, .ref bB, .ref bC, .int n_rd, .ref bEd])), (bTh, .inl (cZ, 20, .inl n_th)), (bXs, .inl (cI, 20, .inl n_xs)), (bYs, .inl (cI, 20, .inl n_ys))] → va_S A s.heap H locs → ∀ (ls : Array Slot), lv_has ls 5 [(0, .ref gN), (1, .int x1), (2, .int x2), (3, .int x3)] → W p l e (headSpec w_N_move ({ frames := 1, cells := 0, slots := 0, locals := 24 } : Room)).room s m args below meth c H locs 0 0 (MQ below (QwI dC dI A [(gN, .inr (4, [.ref bTh, .ref bXs, .ref bYs, .int n_kn', .int n_ct, .ref bA, .ref bB, .ref bC, .int n_rd, .ref bEd])), (bTh, .inl (cZ, 20, .inl n_th)), (bXs, .inl (cI, 20, .inl n_xs')), (bYs, .inl (cI, 20, .inl n_ys'))] rv) args s 0 0 A) (F0 m 43 ls []) := by
  obtain ⟨hx, hb, hr, hml, hts, hown, hlocks⟩ := id C0
  intro n_xs n_ys n_kn x1 x2 x3 hf H locs hP hD hS ls hl
  refine lv_aload_n hx hb d_N_move_43 rfl (lv_at hl 0 rfl) ?_
  refine va_get (D := (dC, dI)) (ci := 4) (v := .ref bXs) (C := R_N) (T := T_N) (N := 10) hx hb hts in_N hown hK.1 hP 0 rfl rfl 1 (by decide) (hts _ bw_358) (fun _ h9 => h9) rfl d_N_move_44 ?_
  refine lv_iload_n hx hb d_N_move_47 rfl (lv_at hl 1 rfl) ?_
  refine lv_iload_n hx hb d_N_move_48 rfl (lv_at hl 2 rfl) ?_
  obtain ⟨hi1, hf⟩ := o_i hf
  refine va_iast (cA := cI) (n := 20) (f := n_xs) hx hb hK.1 hP hD hS 2 0 rfl rfl hi1 d_N_move_49 (fun H locs hP hD hS => ?_)
  have hP : va_P (dC, dI) vwCl [(gN, .inr (4, [.ref bTh, .ref bXs, .ref bYs, .int n_kn, .int n_ct, .ref bA, .ref bB, .ref bC, .int n_rd, .ref bEd])), (bTh, .inl (cZ, 20, .inl n_th)), (bXs, .inl (cI, 20, .inl (upd n_xs x1.toNatClampNeg x2))), (bYs, .inl (cI, 20, .inl n_ys))] H := hP
  have hD : va_D A [(gN, .inr (4, [.ref bTh, .ref bXs, .ref bYs, .int n_kn, .int n_ct, .ref bA, .ref bB, .ref bC, .int n_rd, .ref bEd])), (bTh, .inl (cZ, 20, .inl n_th)), (bXs, .inl (cI, 20, .inl (upd n_xs x1.toNatClampNeg x2))), (bYs, .inl (cI, 20, .inl n_ys))] := hD
  refine lv_aload_n hx hb d_N_move_50 rfl (lv_at hl 0 rfl) ?_
  refine va_get (D := (dC, dI)) (ci := 4) (v := .ref bYs) (C := R_N) (T := T_N) (N := 10) hx hb hts in_N hown hK.1 hP 0 rfl rfl 2 (by decide) (hts _ bw_359) (fun _ h9 => h9) rfl d_N_move_51 ?_
  refine lv_iload_n hx hb d_N_move_54 rfl (lv_at hl 1 rfl) ?_
  refine lv_iload_n hx hb d_N_move_55 rfl (lv_at hl 3 rfl) ?_
  obtain ⟨hi2, hf⟩ := o_i hf
  refine va_iast (cA := cI) (n := 20) (f := n_ys) hx hb hK.1 hP hD hS 3 0 rfl rfl hi2 d_N_move_56 (fun H locs hP hD hS => ?_)
  have hP : va_P (dC, dI) vwCl [(gN, .inr (4, [.ref bTh, .ref bXs, .ref bYs, .int n_kn, .int n_ct, .ref bA, .ref bB, .ref bC, .int n_rd, .ref bEd])), (bTh, .inl (cZ, 20, .inl n_th)), (bXs, .inl (cI, 20, .inl (upd n_xs x1.toNatClampNeg x2))), (bYs, .inl (cI, 20, .inl (upd n_ys x1.toNatClampNeg x3)))] H := hP
  have hD : va_D A [(gN, .inr (4, [.ref bTh, .ref bXs, .ref bYs, .int n_kn, .int n_ct, .ref bA, .ref bB, .ref bC, .int n_rd, .ref bEd])), (bTh, .inl (cZ, 20, .inl n_th)), (bXs, .inl (cI, 20, .inl (upd n_xs x1.toNatClampNeg x2))), (bYs, .inl (cI, 20, .inl (upd n_ys x1.toNatClampNeg x3)))] := hD
  refine lv_aload_n hx hb d_N_move_57 rfl (lv_at hl 0 rfl) ?_
  refine lv_iconst (v := (0 : Int32)) hx hb d_N_move_58 rfl ?_
  refine va_put (D := (dC, dI)) (ci := 4) (v := .int (0 : Int32)) (ty := .boolean) (C := R_N) (T := T_N) (N := 10) hx hb hts in_N ty_N tok_N nok_N hown hK.1 hP hD hS 0 rfl rfl 3 (by decide) (hts _ bw_360) (fun _ h9 => h9) rfl (by decide +kernel) rfl rfl (Nat.le_of_ble_eq_true rfl) d_N_move_59 (fun H locs hP hD hS => ?_)
  have hP : va_P (dC, dI) vwCl [(gN, .inr (4, [.ref bTh, .ref bXs, .ref bYs, .int (0 : Int32), .int n_ct, .ref bA, .ref bB, .ref bC, .int n_rd, .ref bEd])), (bTh, .inl (cZ, 20, .inl n_th)), (bXs, .inl (cI, 20, .inl (upd n_xs x1.toNatClampNeg x2))), (bYs, .inl (cI, 20, .inl (upd n_ys x1.toNatClampNeg x3)))] H := hP
  have hD : va_D A [(gN, .inr (4, [.ref bTh, .ref bXs, .ref bYs, .int (0 : Int32), .int n_ct, .ref bA, .ref bB, .ref bC, .int n_rd, .ref bEd])), (bTh, .inl (cZ, 20, .inl n_th)), (bXs, .inl (cI, 20, .inl (upd n_xs x1.toNatClampNeg x2))), (bYs, .inl (cI, 20, .inl (upd n_ys x1.toNatClampNeg x3)))] := hD
  refine lv_iload_n hx hb d_N_move_62 rfl (lv_at hl 1 rfl) ?_
  cases hf
  exact wr_i hx hb hr hlocks hP hD hS d_N_move_63
set_option maxHeartbeats 4000000 in
set_option maxRecDepth 100000 in
theorem t_N_move_e {p : Program} {l : Launch} {e : Env} {s : State} {m : MethodId} {args : Array Value} {below : List Frame} {meth : Method} {c : Code} {dC : Nat → ClassId} {dI : Nat → Nat → Nat} {cI cZ : ClassId} {gN bTh bXs bYs bA bB bC bEd : Nat} {n_th : Nat → Int32} {n_ct : Int32} {n_rd : Int32} {rv : Int32} {n_xs' : Nat → Int32} {n_ys' : Nat → Int32} {n_kn' : Int32} {A : Nat → Prop} (C0 : cx p s m args meth c b_N_move (some .int) 5 R_N) (hK : gK dC dI cI cZ s) (hA : ∀ q, s.heap.size ≤ q → A q) : ∀ (n_xs : Nat → Int32) (n_ys : Nat → Int32) (n_kn : Int32) (x1 : Int32) (x2 : Int32) (x3 : Int32), f_N_move n_th n_xs n_ys n_kn x1 x2 x3 = some (rv, n_xs', n_ys', n_kn') → ∀ (H : Heap) (locs : List Loc), va_P (dC, dI) vwCl [(gN, .inr (4, [.ref bTh, .ref bXs, .ref bYs, .int n_kn, .int n_ct, .ref bA, .ref bB, .ref bC, .int n_rd, .ref bEd])), (bTh, .inl (cZ, 20, .inl n_th)), (bXs, .inl (cI, 20, .inl n_xs)), (bYs, .inl (cI, 20, .inl n_ys))] H → va_D A [(gN, .inr (4, [.ref bTh, .ref bXs, .ref bYs, .int n_kn, .int n_ct, .ref bA, .ref bB, .ref bC, .int n_rd, .ref bEd])), (bTh, .inl (cZ, 20, .inl n_th)), (bXs, .inl (cI, 20, .inl n_xs)), (bYs, .inl (cI, 20, .inl n_ys))] → va_S A s.heap H locs → ∀ (ls : Array Slot), lv_has ls 5 [(0, .ref gN), (1, .int x1), (2, .int x2), (3, .int x3)] → W p l e (headSpec w_N_move ({ frames := 1, cells := 0, slots := 0, locals := 24 } : Room)).room s m args below meth c H locs 0 0 (MQ below (QwI dC dI A [(gN, .inr (4, [.ref bTh, .ref bXs, .ref bYs, .int n_kn', .int n_ct, .ref bA, .ref bB, .ref bC, .int n_rd, .ref bEd])), (bTh, .inl (cZ, 20, .inl n_th)), (bXs, .inl (cI, 20, .inl n_xs')), (bYs, .inl (cI, 20, .inl n_ys'))] rv) args s 0 0 A) (F0 m 0 ls []) := by
  obtain ⟨hx, hb, hr, hml, hts, hown, hlocks⟩ := id C0
  intro n_xs n_ys n_kn x1 x2 x3 hf H locs hP hD hS ls hl
  refine lv_aload_n hx hb d_N_move_0 rfl (lv_at hl 0 rfl) ?_
  refine lv_iload_n hx hb d_N_move_1 rfl (lv_at hl 1 rfl) ?_
  obtain ⟨r3, hv5, hf⟩ := o_b hf
  refine rc_i (va_runV (As := [.int x1]) (rest := []) ⟨hx, hb, hml, hown, hts⟩ (c_N_is l dC dI cI cZ gN bTh bXs bYs bA bB bC bEd n_th n_kn n_ct n_rd x1 r3 hv5) (cwV 1 hts (gd_V bw_405 bw_407 bp_14 bw_5 bw_408) rfl rfl rfl ⟨rfl, hd_N_is⟩ ⟨Nat.le_of_ble_eq_true rfl, Nat.le_of_ble_eq_true rfl⟩) (pv_r (wc := [(gN, .inr (4, [.ref bTh, .ref bXs, .ref bYs, .int n_kn, .int n_ct, .ref bA, .ref bB, .ref bC, .int n_rd, .ref bEd])), (bTh, .inl (cZ, 20, .inl n_th))]) hK hP [0, 1] rfl 0 (ci := 4) rfl rfl) rfl rfl hl.1 rfl (lv_room (Nat.le_of_ble_eq_true rfl)) d_N_move_2 ⟨Nat.zero_le _, Nat.zero_le _⟩) ?_
  refine lv_if_ne (tgt := 10) hx hb d_N_move_5 (by decide) (fun hc6 => ?_) (fun hc6 => ?_)
  · have hf := o_f hf hc6
    refine lv_iload_n hx hb d_N_move_10 rfl (lv_at hl 2 rfl) ?_
    refine lv_iload_n hx hb d_N_move_11 rfl (lv_at hl 3 rfl) ?_
    obtain ⟨r7, hv9, hf⟩ := o_b hf
    refine rc_i (va_runS (As := [.int x2, .int x3]) (rest := []) ⟨hx, hb, hml, hown, hts⟩ (c_N_outside l dC dI cI cZ x2 x3 r7 hv9) (va_cwS 2 hts (gd_S bw_392 bw_393 bw_5 bw_394) rfl rfl rfl hd_N_outside ⟨Nat.le_of_ble_eq_true rfl, Nat.le_of_ble_eq_true rfl⟩) (ps_r (wc := []) hK hP [] rfl) rfl rfl hl.1 rfl (lv_room (Nat.le_of_ble_eq_true rfl)) d_N_move_12 ⟨Nat.zero_le _, Nat.zero_le _⟩) ?_
    refine lv_if_eq (tgt := 21) hx hb d_N_move_15 (by decide) (fun hc10 => ?_) (fun hc10 => ?_)
    · have hf := o_t hf hc10
      refine lv_aload_n hx hb d_N_move_21 rfl (lv_at hl 0 rfl) ?_
      refine lv_iload_n hx hb d_N_move_22 rfl (lv_at hl 2 rfl) ?_
      refine lv_iload_n hx hb d_N_move_23 rfl (lv_at hl 3 rfl) ?_
      obtain ⟨r11, hv13, hf⟩ := o_b hf
      refine rc_i (va_runV (As := [.int x2, .int x3]) (rest := []) ⟨hx, hb, hml, hown, hts⟩ (c_N_siteAt l dC dI cI cZ gN bTh bXs bYs bA bB bC bEd n_th n_xs n_ys n_kn n_ct n_rd x2 x3 r11 hv13) (cwV 2 hts (gd_V bw_397 bw_399 bp_13 bw_5 bw_400) rfl rfl rfl ⟨rfl, hd_N_siteAt⟩ ⟨Nat.le_of_ble_eq_true rfl, Nat.le_of_ble_eq_true rfl⟩) (pv_r (wc := [(gN, .inr (4, [.ref bTh, .ref bXs, .ref bYs, .int n_kn, .int n_ct, .ref bA, .ref bB, .ref bC, .int n_rd, .ref bEd])), (bTh, .inl (cZ, 20, .inl n_th)), (bXs, .inl (cI, 20, .inl n_xs)), (bYs, .inl (cI, 20, .inl n_ys))]) hK hP [0, 1, 2, 3] rfl 0 (ci := 4) rfl rfl) rfl rfl hl.1 rfl (lv_room (Nat.le_of_ble_eq_true rfl)) d_N_move_24 ⟨Nat.zero_le _, Nat.zero_le _⟩) ?_
      refine lv_istore (lv' := [(4, .int r11), (0, .ref gN), (1, .int x1), (2, .int x2), (3, .int x3)]) hx hb d_N_move_27 hl (by decide) rfl (fun ls hl => ?_)
      refine lv_iload hx hb d_N_move_29 (lv_at hl 0 rfl) ?_
      refine lv_if_lt (tgt := 43) hx hb d_N_move_31 (by decide) (fun hc14 => ?_) (fun hc14 => ?_)
      · have hf := o_t hf hc14
        exact t_N_move_b43 C0 hK hA  n_xs n_ys n_kn x1 x2 x3 hf _ _ hP hD hS ls (lv_sub hl [1, 2, 3, 4] rfl)
      · have hf := o_f hf hc14
        refine lv_iload hx hb d_N_move_34 (lv_at hl 0 rfl) ?_
        refine lv_iload_n hx hb d_N_move_36 rfl (lv_at hl 2 rfl) ?_
        refine lv_icmp_eq (tgt := 43) hx hb d_N_move_37 (by decide) (fun hc15 => ?_) (fun hc15 => ?_)
        · have hf := o_t hf hc15
          exact t_N_move_b43 C0 hK hA  n_xs n_ys n_kn x1 x2 x3 hf _ _ hP hD hS ls (lv_sub hl [1, 2, 3, 4] rfl)
        · have hf := o_f hf hc15
          refine lv_bipush (v := (-3 : Int32)) hx hb d_N_move_40 rfl ?_
          cases hf
          exact wr_i hx hb hr hlocks hP hD hS d_N_move_42
    · have hf := o_f hf hc10
      refine lv_bipush (v := (-2 : Int32)) hx hb d_N_move_18 rfl ?_
      cases hf
      exact wr_i hx hb hr hlocks hP hD hS d_N_move_20
  · have hf := o_t hf hc6
    refine lv_iconst (v := (-1 : Int32)) hx hb d_N_move_8 rfl ?_
    cases hf
    exact wr_i hx hb hr hlocks hP hD hS d_N_move_9
set_option maxHeartbeats 4000000 in
set_option maxRecDepth 100000 in
theorem c_N_move (l : Launch) (dC : Nat → ClassId) (dI : Nat → Nat → Nat) (cI cZ : ClassId) (gN bTh bXs bYs bA bB bC bEd : Nat) (n_th : Nat → Int32) (n_xs : Nat → Int32) (n_ys : Nat → Int32) (n_kn : Int32) (n_ct : Int32) (n_rd : Int32) (x1 : Int32) (x2 : Int32) (x3 : Int32) (rv : Int32) (n_xs' : Nat → Int32) (n_ys' : Nat → Int32) (n_kn' : Int32) (sz : Nat) (hf : f_N_move n_th n_xs n_ys n_kn x1 x2 x3 = some (rv, n_xs', n_ys', n_kn')) : Met l y_N_move w_N_move ({ frames := 1, cells := 0, slots := 0, locals := 24 } : Room) (PcW dC dI cI cZ [.ref gN, .int x1, .int x2, .int x3] [(gN, .inr (4, [.ref bTh, .ref bXs, .ref bYs, .int n_kn, .int n_ct, .ref bA, .ref bB, .ref bC, .int n_rd, .ref bEd])), (bTh, .inl (cZ, 20, .inl n_th)), (bXs, .inl (cI, 20, .inl n_xs)), (bYs, .inl (cI, 20, .inl n_ys))] sz) (QwI dC dI (va_A [(gN, .inr (4, [.ref bTh, .ref bXs, .ref bYs, .int n_kn, .int n_ct, .ref bA, .ref bB, .ref bC, .int n_rd, .ref bEd])), (bTh, .inl (cZ, 20, .inl n_th)), (bXs, .inl (cI, 20, .inl n_xs)), (bYs, .inl (cI, 20, .inl n_ys))] sz) [(gN, .inr (4, [.ref bTh, .ref bXs, .ref bYs, .int n_kn', .int n_ct, .ref bA, .ref bB, .ref bC, .int n_rd, .ref bEd])), (bTh, .inl (cZ, 20, .inl n_th)), (bXs, .inl (cI, 20, .inl n_xs')), (bYs, .inl (cI, 20, .inl n_ys'))] rv) 0 0 (va_A [(gN, .inr (4, [.ref bTh, .ref bXs, .ref bYs, .int n_kn, .int n_ct, .ref bA, .ref bB, .ref bC, .int n_rd, .ref bEd])), (bTh, .inl (cZ, 20, .inl n_th)), (bXs, .inl (cI, 20, .inl n_xs)), (bYs, .inl (cI, 20, .inl n_ys))] sz) := by
  refine Met.ofW (cc := b_N_move) (maxL := 5) (ret := (some .int)) (by decide) rfl ?_
  intro p e s m args below meth c s₁ B hml hv
  obtain ⟨rfl, hsz, hP, hK, hD0⟩ := hv
  have C0 : cx p s m _ meth c b_N_move (some .int) 5 R_N := ⟨B.exec, B.bytes, B.returns, hml, fun w hw => atoms_spec (ws := w_N_move) B.pre w (List.mem_cons_of_mem _ hw), findClass_of_methodNamed B.named, B.notSynchronized⟩
  subst hsz
  have hD := hD0.self (sz := s.heap.size)
  generalize hAe : va_A [(gN, .inr (4, [.ref bTh, .ref bXs, .ref bYs, .int n_kn, .int n_ct, .ref bA, .ref bB, .ref bC, .int n_rd, .ref bEd])), (bTh, .inl (cZ, 20, .inl n_th)), (bXs, .inl (cI, 20, .inl n_xs)), (bYs, .inl (cI, 20, .inl n_ys))] s.heap.size = A at hD ⊢
  have hA : ∀ q : Nat, s.heap.size ≤ q → A q := fun q h => by rw [← hAe]; exact Or.inr h
  have hl := lv_entry ([.ref gN, .int x1, .int x2, .int x3]) (n := 5) (Nat.le_of_ble_eq_true rfl)
  rw [lg_entry_eq]
  generalize (lg_sl ([.ref gN, .int x1, .int x2, .int x3]) ++ List.replicate (5 - (lg_sl ([.ref gN, .int x1, .int x2, .int x3])).length) Slot.unset).toArray = ls at hl ⊢
  have hl : lv_has ls 5 [(0, .ref gN), (1, .int x1), (2, .int x2), (3, .int x3)] := hl
  exact t_N_move_e C0 hK hA n_xs n_ys n_kn x1 x2 x3 hf _ _ hP hD va_S.rf ls hl
set_option maxHeartbeats 4000000 in
set_option maxRecDepth 100000 in
theorem t_N_sites_b25 {p : Program} {l : Launch} {e : Env} {s : State} {m : MethodId} {args : Array Value} {below : List Frame} {meth : Method} {c : Code} {dC : Nat → ClassId} {dI : Nat → Nat → Nat} {cI cZ : ClassId} {gN bTh bXs bYs bA bB bC bEd : Nat} {n_th : Nat → Int32} {n_kn : Int32} {n_ct : Int32} {n_rd : Int32} {rv : Int32} (C0 : cx p s m args meth c b_N_sites (some .int) 3 R_N) (hK : gK dC dI cI cZ s) (hP : va_P (dC, dI) vwCl [(gN, .inr (4, [.ref bTh, .ref bXs, .ref bYs, .int n_kn, .int n_ct, .ref bA, .ref bB, .ref bC, .int n_rd, .ref bEd])), (bTh, .inl (cZ, 20, .inl n_th))] s.heap) {k4 : Int32 → Int32 → Option (Int32)} (hk4 : ∀ (x1 : Int32) (x2 : Int32), k4 x1 x2 = some rv → ∀ (ls : Array Slot), lv_has ls 3 [(0, .ref gN), (1, .int x1), (2, .int x2)] → W p l e (headSpec w_N_sites ({ frames := 0, cells := 0, slots := 0, locals := 0 } : Room)).room s m args below meth c s.heap [] 0 0 (MQ below (vp_Si (fun r => r = rv)) args s 0 0 (fun _ => False)) (F0 m 4 ls [])) : ∀ (x2 : Int32) (z0 : Int32) (z1 : Int32), f_N_sites_b25 k4 n_th x2 z0 z1 = some rv → ∀ (ls : Array Slot), lv_has ls 3 [(0, .ref gN), (2, .int x2)] → W p l e (headSpec w_N_sites ({ frames := 0, cells := 0, slots := 0, locals := 0 } : Room)).room s m args below meth c s.heap [] 0 0 (MQ below (vp_Si (fun r => r = rv)) args s 0 0 (fun _ => False)) (F0 m 25 ls [.int z1, .int z0]) := by
  obtain ⟨hx, hb, hr, hml, hts, hown, hlocks⟩ := id C0
  intro x2 z0 z1 hf ls hl
  refine lv_iadd hx hb d_N_sites_25 ?_
  refine lv_istore_n (lv' := [(1, .int (z0 + z1)), (0, .ref gN), (2, .int x2)]) hx hb d_N_sites_26 rfl hl (by decide) rfl (fun ls hl => ?_)
  refine lv_iinc (v := (x2 + 1)) (lv' := [(2, .int (x2 + 1)), (1, .int (z0 + z1)), (0, .ref gN)]) hx hb d_N_sites_27 hl (k := 2) rfl rfl (by decide) rfl (fun ls hl => ?_)
  refine lv_goto (tgt := 4) hx hb d_N_sites_30 (by decide) ?_
  exact hk4 (z0 + z1) (x2 + 1) hf ls (lv_sub hl [2, 1, 0] rfl)
set_option maxHeartbeats 4000000 in
set_option maxRecDepth 100000 in
theorem t_N_sites_L4 {p : Program} {l : Launch} {e : Env} {s : State} {m : MethodId} {args : Array Value} {below : List Frame} {meth : Method} {c : Code} {dC : Nat → ClassId} {dI : Nat → Nat → Nat} {cI cZ : ClassId} {gN bTh bXs bYs bA bB bC bEd : Nat} {n_th : Nat → Int32} {n_kn : Int32} {n_ct : Int32} {n_rd : Int32} {rv : Int32} (C0 : cx p s m args meth c b_N_sites (some .int) 3 R_N) (hK : gK dC dI cI cZ s) (hP : va_P (dC, dI) vwCl [(gN, .inr (4, [.ref bTh, .ref bXs, .ref bYs, .int n_kn, .int n_ct, .ref bA, .ref bB, .ref bC, .int n_rd, .ref bEd])), (bTh, .inl (cZ, 20, .inl n_th))] s.heap) : ∀ (n : Nat) (x1 : Int32) (x2 : Int32), f_N_sites_L4 n_th n x1 x2 = some rv → ∀ (ls : Array Slot), lv_has ls 3 [(0, .ref gN), (1, .int x1), (2, .int x2)] → W p l e (headSpec w_N_sites ({ frames := 0, cells := 0, slots := 0, locals := 0 } : Room)).room s m args below meth c s.heap [] 0 0 (MQ below (vp_Si (fun r => r = rv)) args s 0 0 (fun _ => False)) (F0 m 4 ls []) := by
  obtain ⟨hx, hb, hr, hml, hts, hown, hlocks⟩ := id C0
  intro n
  induction n with
  | zero =>
    intro x1 x2 hf
    exact (o_n hf).elim
  | succ n ih =>
    intro x1 x2 hf ls hl
    refine lv_iload_n hx hb d_N_sites_4 rfl (lv_at hl 2 rfl) ?_
    refine lv_bipush (v := (20 : Int32)) hx hb d_N_sites_5 rfl ?_
    refine lv_icmp_ge (tgt := 33) hx hb d_N_sites_7 (by decide) (fun hc1 => ?_) (fun hc1 => ?_)
    · have hf := o_t hf hc1
      refine lv_iload_n hx hb d_N_sites_33 rfl (lv_at hl 1 rfl) ?_
      cases hf
      exact rr_i hx hb hr hlocks d_N_sites_34
    · have hf := o_f hf hc1
      refine lv_iload_n hx hb d_N_sites_10 rfl (lv_at hl 1 rfl) ?_
      refine lv_aload_n hx hb d_N_sites_11 rfl (lv_at hl 0 rfl) ?_
      refine va_get (D := (dC, dI)) (ci := 4) (v := .ref bTh) (C := R_N) (T := T_N) (N := 10) hx hb hts in_N hown hK.1 hP 0 rfl rfl 0 (by decide) (hts _ bw_357) (fun _ h9 => h9) rfl d_N_sites_12 ?_
      refine lv_iload_n hx hb d_N_sites_15 rfl (lv_at hl 2 rfl) ?_
      obtain ⟨hi2, hf⟩ := o_i hf
      refine va_zald (cA := cZ) (n := 20) (f := n_th) hx hb hK.1 hP 1 1 rfl rfl hi2 d_N_sites_16 ?_
      refine lv_if_eq (tgt := 24) hx hb d_N_sites_17 (by decide) (fun hc3 => ?_) (fun hc3 => ?_)
      · have hf := o_t hf hc3
        refine lv_iconst (v := (0 : Int32)) hx hb d_N_sites_24 rfl ?_
        exact t_N_sites_b25 C0 hK hP (k4 := (fun x1 x2 => f_N_sites_L4 n_th n x1 x2)) ih x2 x1 (0 : Int32) hf ls (lv_sub hl [0, 2] rfl)
      · have hf := o_f hf hc3
        refine lv_iconst (v := (1 : Int32)) hx hb d_N_sites_20 rfl ?_
        refine lv_goto (tgt := 25) hx hb d_N_sites_21 (by decide) ?_
        exact t_N_sites_b25 C0 hK hP (k4 := (fun x1 x2 => f_N_sites_L4 n_th n x1 x2)) ih x2 x1 (1 : Int32) hf ls (lv_sub hl [0, 2] rfl)
set_option maxHeartbeats 4000000 in
set_option maxRecDepth 100000 in
theorem c_N_sites (l : Launch) (dC : Nat → ClassId) (dI : Nat → Nat → Nat) (cI cZ : ClassId) (gN bTh bXs bYs bA bB bC bEd : Nat) (n_th : Nat → Int32) (n_kn : Int32) (n_ct : Int32) (n_rd : Int32) (rv : Int32) (hf : f_N_sites n_th = some rv) : Met l y_N_sites w_N_sites ({ frames := 0, cells := 0, slots := 0, locals := 0 } : Room) (PcR dC dI cI cZ [.ref gN] [(gN, .inr (4, [.ref bTh, .ref bXs, .ref bYs, .int n_kn, .int n_ct, .ref bA, .ref bB, .ref bC, .int n_rd, .ref bEd])), (bTh, .inl (cZ, 20, .inl n_th))]) (vp_Si (fun r => r = rv)) 0 0 (fun _ => False) := by
  refine Met.ofW (cc := b_N_sites) (maxL := 3) (ret := (some .int)) (by decide) rfl ?_
  intro p e s m args below meth c s₁ B hml hv
  obtain ⟨rfl, hP, hK⟩ := hv
  have C0 : cx p s m _ meth c b_N_sites (some .int) 3 R_N := ⟨B.exec, B.bytes, B.returns, hml, fun w hw => atoms_spec (ws := w_N_sites) B.pre w (List.mem_cons_of_mem _ hw), findClass_of_methodNamed B.named, B.notSynchronized⟩
  obtain ⟨hx, hb, hr, hml, hts, hown, hlocks⟩ := id C0
  have hl := lv_entry ([.ref gN]) (n := 3) (Nat.le_of_ble_eq_true rfl)
  rw [lg_entry_eq]
  generalize (lg_sl ([.ref gN]) ++ List.replicate (3 - (lg_sl ([.ref gN])).length) Slot.unset).toArray = ls at hl ⊢
  have hl : lv_has ls 3 [(0, .ref gN)] := hl
  refine lv_iconst (v := (0 : Int32)) hx hb d_N_sites_0 rfl ?_
  refine lv_istore_n (lv' := [(1, .int (0 : Int32)), (0, .ref gN)]) hx hb d_N_sites_1 rfl hl (by decide) rfl (fun ls hl => ?_)
  refine lv_iconst (v := (0 : Int32)) hx hb d_N_sites_2 rfl ?_
  refine lv_istore_n (lv' := [(2, .int (0 : Int32)), (1, .int (0 : Int32)), (0, .ref gN)]) hx hb d_N_sites_3 rfl hl (by decide) rfl (fun ls hl => ?_)
  exact t_N_sites_L4 C0 hK hP  600 (0 : Int32) (0 : Int32) hf ls (lv_sub hl [2, 1, 0] rfl)
set_option maxHeartbeats 4000000 in
set_option maxRecDepth 100000 in
theorem c_N_coordinate (l : Launch) (dC : Nat → ClassId) (dI : Nat → Nat → Nat) (cI cZ : ClassId) (gN bTh bXs bYs bA bB bC bEd : Nat) (n_th : Nat → Int32) (n_xs : Nat → Int32) (n_ys : Nat → Int32) (n_kn : Int32) (n_ct : Int32) (n_rd : Int32) (x1 : Int32) (x2 : Int32) (rv : Int32) (hf : f_N_coordinate n_th n_xs n_ys x1 x2 = some rv) : Met l y_N_coordinate w_N_coordinate ({ frames := 1, cells := 0, slots := 0, locals := 21 } : Room) (PcR dC dI cI cZ [.ref gN, .int x1, .int x2] [(gN, .inr (4, [.ref bTh, .ref bXs, .ref bYs, .int n_kn, .int n_ct, .ref bA, .ref bB, .ref bC, .int n_rd, .ref bEd])), (bTh, .inl (cZ, 20, .inl n_th)), (bXs, .inl (cI, 20, .inl n_xs)), (bYs, .inl (cI, 20, .inl n_ys))]) (vp_Si (fun r => r = rv)) 0 0 (fun _ => False) := by
  refine Met.ofW (cc := b_N_coordinate) (maxL := 3) (ret := (some .int)) (by decide) rfl ?_
  intro p e s m args below meth c s₁ B hml hv
  obtain ⟨rfl, hP, hK⟩ := hv
  have C0 : cx p s m _ meth c b_N_coordinate (some .int) 3 R_N := ⟨B.exec, B.bytes, B.returns, hml, fun w hw => atoms_spec (ws := w_N_coordinate) B.pre w (List.mem_cons_of_mem _ hw), findClass_of_methodNamed B.named, B.notSynchronized⟩
  obtain ⟨hx, hb, hr, hml, hts, hown, hlocks⟩ := id C0
  have hl := lv_entry ([.ref gN, .int x1, .int x2]) (n := 3) (Nat.le_of_ble_eq_true rfl)
  rw [lg_entry_eq]
  generalize (lg_sl ([.ref gN, .int x1, .int x2]) ++ List.replicate (3 - (lg_sl ([.ref gN, .int x1, .int x2])).length) Slot.unset).toArray = ls at hl ⊢
  have hl : lv_has ls 3 [(0, .ref gN), (1, .int x1), (2, .int x2)] := hl
  refine lv_aload_n hx hb d_N_coordinate_0 rfl (lv_at hl 0 rfl) ?_
  refine lv_iload_n hx hb d_N_coordinate_1 rfl (lv_at hl 1 rfl) ?_
  obtain ⟨r1, hv3, hf⟩ := o_b hf
  refine rc_i (va_runV (As := [.int x1]) (rest := []) ⟨hx, hb, hml, hown, hts⟩ (c_N_is l dC dI cI cZ gN bTh bXs bYs bA bB bC bEd n_th n_kn n_ct n_rd x1 r1 hv3) (cwV 1 hts (gd_V bw_405 bw_407 bp_14 bw_5 bw_408) rfl rfl rfl ⟨rfl, hd_N_is⟩ ⟨Nat.le_of_ble_eq_true rfl, Nat.le_of_ble_eq_true rfl⟩) (pv_r (wc := [(gN, .inr (4, [.ref bTh, .ref bXs, .ref bYs, .int n_kn, .int n_ct, .ref bA, .ref bB, .ref bC, .int n_rd, .ref bEd])), (bTh, .inl (cZ, 20, .inl n_th))]) hK hP [0, 1] rfl 0 (ci := 4) rfl rfl) rfl rfl hl.1 rfl (lv_room (Nat.le_of_ble_eq_true rfl)) d_N_coordinate_2 ⟨Nat.zero_le _, Nat.zero_le _⟩) ?_
  refine lv_if_eq (tgt := 17) hx hb d_N_coordinate_5 (by decide) (fun hc4 => ?_) (fun hc4 => ?_)
  · have hf := o_t hf hc4
    refine lv_ldc (v := (2000000 : Int32)) hx hb hown (hts _ bw_421) d_N_coordinate_17 ?_
    refine lv_goto (tgt := 41) hx hb d_N_coordinate_19 (by decide) ?_
    cases hf
    exact rr_i hx hb hr hlocks d_N_coordinate_41
  · have hf := o_f hf hc4
    refine lv_iload_n hx hb d_N_coordinate_8 rfl (lv_at hl 2 rfl) ?_
    refine lv_if_lt (tgt := 17) hx hb d_N_coordinate_9 (by decide) (fun hc5 => ?_) (fun hc5 => ?_)
    · have hf := o_t hf hc5
      refine lv_ldc (v := (2000000 : Int32)) hx hb hown (hts _ bw_421) d_N_coordinate_17 ?_
      refine lv_goto (tgt := 41) hx hb d_N_coordinate_19 (by decide) ?_
      cases hf
      exact rr_i hx hb hr hlocks d_N_coordinate_41
    · have hf := o_f hf hc5
      refine lv_iload_n hx hb d_N_coordinate_12 rfl (lv_at hl 2 rfl) ?_
      refine lv_iconst (v := (1 : Int32)) hx hb d_N_coordinate_13 rfl ?_
      refine lv_icmp_le (tgt := 22) hx hb d_N_coordinate_14 (by decide) (fun hc6 => ?_) (fun hc6 => ?_)
      · have hf := o_t hf hc6
        refine lv_iload_n hx hb d_N_coordinate_22 rfl (lv_at hl 2 rfl) ?_
        refine lv_if_ne (tgt := 35) hx hb d_N_coordinate_23 (by decide) (fun hc7 => ?_) (fun hc7 => ?_)
        · have hf := o_f hf hc7
          refine lv_aload_n hx hb d_N_coordinate_35 rfl (lv_at hl 0 rfl) ?_
          refine va_get (D := (dC, dI)) (ci := 4) (v := .ref bYs) (C := R_N) (T := T_N) (N := 10) hx hb hts in_N hown hK.1 hP 0 rfl rfl 2 (by decide) (hts _ bw_359) (fun _ h9 => h9) rfl d_N_coordinate_36 ?_
          refine lv_iload_n hx hb d_N_coordinate_39 rfl (lv_at hl 1 rfl) ?_
          obtain ⟨hi8, hf⟩ := o_i hf
          refine va_iald (cA := cI) (n := 20) (f := n_ys) hx hb hK.1 hP 3 0 rfl rfl hi8 d_N_coordinate_40 ?_
          cases hf
          exact rr_i hx hb hr hlocks d_N_coordinate_41
        · have hf := o_t hf hc7
          refine lv_aload_n hx hb d_N_coordinate_26 rfl (lv_at hl 0 rfl) ?_
          refine va_get (D := (dC, dI)) (ci := 4) (v := .ref bXs) (C := R_N) (T := T_N) (N := 10) hx hb hts in_N hown hK.1 hP 0 rfl rfl 1 (by decide) (hts _ bw_358) (fun _ h9 => h9) rfl d_N_coordinate_27 ?_
          refine lv_iload_n hx hb d_N_coordinate_30 rfl (lv_at hl 1 rfl) ?_
          obtain ⟨hi9, hf⟩ := o_i hf
          refine va_iald (cA := cI) (n := 20) (f := n_xs) hx hb hK.1 hP 2 0 rfl rfl hi9 d_N_coordinate_31 ?_
          refine lv_goto (tgt := 41) hx hb d_N_coordinate_32 (by decide) ?_
          cases hf
          exact rr_i hx hb hr hlocks d_N_coordinate_41
      · have hf := o_f hf hc6
        refine lv_ldc (v := (2000000 : Int32)) hx hb hown (hts _ bw_421) d_N_coordinate_17 ?_
        refine lv_goto (tgt := 41) hx hb d_N_coordinate_19 (by decide) ?_
        cases hf
        exact rr_i hx hb hr hlocks d_N_coordinate_41
set_option maxHeartbeats 4000000 in
set_option maxRecDepth 100000 in
theorem c_N_earlier (l : Launch) (dC : Nat → ClassId) (dI : Nat → Nat → Nat) (cI cZ : ClassId) (gN bTh bXs bYs bA bB bC bEd : Nat) (n_xs : Nat → Int32) (n_ys : Nat → Int32) (n_kn : Int32) (n_ct : Int32) (n_rd : Int32) (x1 : Int32) (x2 : Int32) (rv : Int32) (hf : f_N_earlier n_xs n_ys x1 x2 = some rv) : Met l y_N_earlier w_N_earlier ({ frames := 0, cells := 0, slots := 0, locals := 0 } : Room) (PcR dC dI cI cZ [.ref gN, .int x1, .int x2] [(gN, .inr (4, [.ref bTh, .ref bXs, .ref bYs, .int n_kn, .int n_ct, .ref bA, .ref bB, .ref bC, .int n_rd, .ref bEd])), (bXs, .inl (cI, 20, .inl n_xs)), (bYs, .inl (cI, 20, .inl n_ys))]) (vp_Si (fun r => r = rv)) 0 0 (fun _ => False) := by
  refine Met.ofW (cc := b_N_earlier) (maxL := 3) (ret := (some .boolean)) (by decide) rfl ?_
  intro p e s m args below meth c s₁ B hml hv
  obtain ⟨rfl, hP, hK⟩ := hv
  have C0 : cx p s m _ meth c b_N_earlier (some .boolean) 3 R_N := ⟨B.exec, B.bytes, B.returns, hml, fun w hw => atoms_spec (ws := w_N_earlier) B.pre w (List.mem_cons_of_mem _ hw), findClass_of_methodNamed B.named, B.notSynchronized⟩
  obtain ⟨hx, hb, hr, hml, hts, hown, hlocks⟩ := id C0
  have hl := lv_entry ([.ref gN, .int x1, .int x2]) (n := 3) (Nat.le_of_ble_eq_true rfl)
  rw [lg_entry_eq]
  generalize (lg_sl ([.ref gN, .int x1, .int x2]) ++ List.replicate (3 - (lg_sl ([.ref gN, .int x1, .int x2])).length) Slot.unset).toArray = ls at hl ⊢
  have hl : lv_has ls 3 [(0, .ref gN), (1, .int x1), (2, .int x2)] := hl
  refine lv_aload_n hx hb d_N_earlier_0 rfl (lv_at hl 0 rfl) ?_
  refine va_get (D := (dC, dI)) (ci := 4) (v := .ref bXs) (C := R_N) (T := T_N) (N := 10) hx hb hts in_N hown hK.1 hP 0 rfl rfl 1 (by decide) (hts _ bw_358) (fun _ h9 => h9) rfl d_N_earlier_1 ?_
  refine lv_iload_n hx hb d_N_earlier_4 rfl (lv_at hl 1 rfl) ?_
  obtain ⟨hi1, hf⟩ := o_i hf
  refine va_iald (cA := cI) (n := 20) (f := n_xs) hx hb hK.1 hP 1 0 rfl rfl hi1 d_N_earlier_5 ?_
  refine lv_aload_n hx hb d_N_earlier_6 rfl (lv_at hl 0 rfl) ?_
  refine va_get (D := (dC, dI)) (ci := 4) (v := .ref bXs) (C := R_N) (T := T_N) (N := 10) hx hb hts in_N hown hK.1 hP 0 rfl rfl 1 (by decide) (hts _ bw_358) (fun _ h9 => h9) rfl d_N_earlier_7 ?_
  refine lv_iload_n hx hb d_N_earlier_10 rfl (lv_at hl 2 rfl) ?_
  obtain ⟨hi2, hf⟩ := o_i hf
  refine va_iald (cA := cI) (n := 20) (f := n_xs) hx hb hK.1 hP 1 0 rfl rfl hi2 d_N_earlier_11 ?_
  refine lv_icmp_lt (tgt := 45) hx hb d_N_earlier_12 (by decide) (fun hc3 => ?_) (fun hc3 => ?_)
  · have hf := o_t hf hc3
    refine lv_iconst (v := (1 : Int32)) hx hb d_N_earlier_45 rfl ?_
    refine lv_goto (tgt := 50) hx hb d_N_earlier_46 (by decide) ?_
    cases hf
    exact rr_z hx hb hr hlocks rfl d_N_earlier_50
  · have hf := o_f hf hc3
    refine lv_aload_n hx hb d_N_earlier_15 rfl (lv_at hl 0 rfl) ?_
    refine va_get (D := (dC, dI)) (ci := 4) (v := .ref bXs) (C := R_N) (T := T_N) (N := 10) hx hb hts in_N hown hK.1 hP 0 rfl rfl 1 (by decide) (hts _ bw_358) (fun _ h9 => h9) rfl d_N_earlier_16 ?_
    refine lv_iload_n hx hb d_N_earlier_19 rfl (lv_at hl 1 rfl) ?_
    obtain ⟨hi4, hf⟩ := o_i hf
    refine va_iald (cA := cI) (n := 20) (f := n_xs) hx hb hK.1 hP 1 0 rfl rfl hi4 d_N_earlier_20 ?_
    refine lv_aload_n hx hb d_N_earlier_21 rfl (lv_at hl 0 rfl) ?_
    refine va_get (D := (dC, dI)) (ci := 4) (v := .ref bXs) (C := R_N) (T := T_N) (N := 10) hx hb hts in_N hown hK.1 hP 0 rfl rfl 1 (by decide) (hts _ bw_358) (fun _ h9 => h9) rfl d_N_earlier_22 ?_
    refine lv_iload_n hx hb d_N_earlier_25 rfl (lv_at hl 2 rfl) ?_
    obtain ⟨hi5, hf⟩ := o_i hf
    refine va_iald (cA := cI) (n := 20) (f := n_xs) hx hb hK.1 hP 1 0 rfl rfl hi5 d_N_earlier_26 ?_
    refine lv_icmp_ne (tgt := 49) hx hb d_N_earlier_27 (by decide) (fun hc6 => ?_) (fun hc6 => ?_)
    · have hf := o_f hf hc6
      refine lv_iconst (v := (0 : Int32)) hx hb d_N_earlier_49 rfl ?_
      cases hf
      exact rr_z hx hb hr hlocks rfl d_N_earlier_50
    · have hf := o_t hf hc6
      refine lv_aload_n hx hb d_N_earlier_30 rfl (lv_at hl 0 rfl) ?_
      refine va_get (D := (dC, dI)) (ci := 4) (v := .ref bYs) (C := R_N) (T := T_N) (N := 10) hx hb hts in_N hown hK.1 hP 0 rfl rfl 2 (by decide) (hts _ bw_359) (fun _ h9 => h9) rfl d_N_earlier_31 ?_
      refine lv_iload_n hx hb d_N_earlier_34 rfl (lv_at hl 1 rfl) ?_
      obtain ⟨hi7, hf⟩ := o_i hf
      refine va_iald (cA := cI) (n := 20) (f := n_ys) hx hb hK.1 hP 2 0 rfl rfl hi7 d_N_earlier_35 ?_
      refine lv_aload_n hx hb d_N_earlier_36 rfl (lv_at hl 0 rfl) ?_
      refine va_get (D := (dC, dI)) (ci := 4) (v := .ref bYs) (C := R_N) (T := T_N) (N := 10) hx hb hts in_N hown hK.1 hP 0 rfl rfl 2 (by decide) (hts _ bw_359) (fun _ h9 => h9) rfl d_N_earlier_37 ?_
      refine lv_iload_n hx hb d_N_earlier_40 rfl (lv_at hl 2 rfl) ?_
      obtain ⟨hi8, hf⟩ := o_i hf
      refine va_iald (cA := cI) (n := 20) (f := n_ys) hx hb hK.1 hP 2 0 rfl rfl hi8 d_N_earlier_41 ?_
      refine lv_icmp_ge (tgt := 49) hx hb d_N_earlier_42 (by decide) (fun hc9 => ?_) (fun hc9 => ?_)
      · have hf := o_t hf hc9
        refine lv_iconst (v := (0 : Int32)) hx hb d_N_earlier_49 rfl ?_
        cases hf
        exact rr_z hx hb hr hlocks rfl d_N_earlier_50
      · have hf := o_f hf hc9
        refine lv_iconst (v := (1 : Int32)) hx hb d_N_earlier_45 rfl ?_
        refine lv_goto (tgt := 50) hx hb d_N_earlier_46 (by decide) ?_
        cases hf
        exact rr_z hx hb hr hlocks rfl d_N_earlier_50
set_option maxHeartbeats 4000000 in
set_option maxRecDepth 100000 in
theorem c_N_sideOf (l : Launch) (dC : Nat → ClassId) (dI : Nat → Nat → Nat) (cI cZ : ClassId) (gN bTh bXs bYs bA bB bC bEd : Nat) (n_xs : Nat → Int32) (n_ys : Nat → Int32) (n_kn : Int32) (n_ct : Int32) (n_rd : Int32) (x1 : Int32) (x2 : Int32) (x3 : Int32) (x4 : Int32) (rv : Int32) (hf : f_N_sideOf n_xs n_ys x1 x2 x3 x4 = some rv) : Met l y_N_sideOf w_N_sideOf ({ frames := 0, cells := 0, slots := 0, locals := 0 } : Room) (PcR dC dI cI cZ [.ref gN, .int x1, .int x2, .int x3, .int x4] [(gN, .inr (4, [.ref bTh, .ref bXs, .ref bYs, .int n_kn, .int n_ct, .ref bA, .ref bB, .ref bC, .int n_rd, .ref bEd])), (bXs, .inl (cI, 20, .inl n_xs)), (bYs, .inl (cI, 20, .inl n_ys))]) (vp_Si (fun r => r = rv)) 0 0 (fun _ => False) := by
  refine Met.ofW (cc := b_N_sideOf) (maxL := 7) (ret := (some .int)) (by decide) rfl ?_
  intro p e s m args below meth c s₁ B hml hv
  obtain ⟨rfl, hP, hK⟩ := hv
  have C0 : cx p s m _ meth c b_N_sideOf (some .int) 7 R_N := ⟨B.exec, B.bytes, B.returns, hml, fun w hw => atoms_spec (ws := w_N_sideOf) B.pre w (List.mem_cons_of_mem _ hw), findClass_of_methodNamed B.named, B.notSynchronized⟩
  obtain ⟨hx, hb, hr, hml, hts, hown, hlocks⟩ := id C0
  have hl := lv_entry ([.ref gN, .int x1, .int x2, .int x3, .int x4]) (n := 7) (Nat.le_of_ble_eq_true rfl)
  rw [lg_entry_eq]
  generalize (lg_sl ([.ref gN, .int x1, .int x2, .int x3, .int x4]) ++ List.replicate (7 - (lg_sl ([.ref gN, .int x1, .int x2, .int x3, .int x4])).length) Slot.unset).toArray = ls at hl ⊢
  have hl : lv_has ls 7 [(0, .ref gN), (1, .int x1), (2, .int x2), (3, .int x3), (4, .int x4)] := hl
  refine lv_aload_n hx hb d_N_sideOf_0 rfl (lv_at hl 0 rfl) ?_
  refine va_get (D := (dC, dI)) (ci := 4) (v := .ref bXs) (C := R_N) (T := T_N) (N := 10) hx hb hts in_N hown hK.1 hP 0 rfl rfl 1 (by decide) (hts _ bw_358) (fun _ h9 => h9) rfl d_N_sideOf_1 ?_
  refine lv_iload_n hx hb d_N_sideOf_4 rfl (lv_at hl 2 rfl) ?_
  obtain ⟨hi1, hf⟩ := o_i hf
  refine va_iald (cA := cI) (n := 20) (f := n_xs) hx hb hK.1 hP 1 0 rfl rfl hi1 d_N_sideOf_5 ?_
  refine lv_aload_n hx hb d_N_sideOf_6 rfl (lv_at hl 0 rfl) ?_
  refine va_get (D := (dC, dI)) (ci := 4) (v := .ref bXs) (C := R_N) (T := T_N) (N := 10) hx hb hts in_N hown hK.1 hP 0 rfl rfl 1 (by decide) (hts _ bw_358) (fun _ h9 => h9) rfl d_N_sideOf_7 ?_
  refine lv_iload_n hx hb d_N_sideOf_10 rfl (lv_at hl 1 rfl) ?_
  obtain ⟨hi2, hf⟩ := o_i hf
  refine va_iald (cA := cI) (n := 20) (f := n_xs) hx hb hK.1 hP 1 0 rfl rfl hi2 d_N_sideOf_11 ?_
  refine lv_isub hx hb d_N_sideOf_12 ?_
  refine lv_i2l hx hb d_N_sideOf_13 rfl ?_
  refine lv_iload hx hb d_N_sideOf_14 (lv_at hl 4 rfl) ?_
  refine lv_aload_n hx hb d_N_sideOf_16 rfl (lv_at hl 0 rfl) ?_
  refine va_get (D := (dC, dI)) (ci := 4) (v := .ref bYs) (C := R_N) (T := T_N) (N := 10) hx hb hts in_N hown hK.1 hP 0 rfl rfl 2 (by decide) (hts _ bw_359) (fun _ h9 => h9) rfl d_N_sideOf_17 ?_
  refine lv_iload_n hx hb d_N_sideOf_20 rfl (lv_at hl 1 rfl) ?_
  obtain ⟨hi3, hf⟩ := o_i hf
  refine va_iald (cA := cI) (n := 20) (f := n_ys) hx hb hK.1 hP 2 0 rfl rfl hi3 d_N_sideOf_21 ?_
  refine lv_isub hx hb d_N_sideOf_22 ?_
  refine lv_i2l hx hb d_N_sideOf_23 rfl ?_
  refine lv_lmul hx hb d_N_sideOf_24 ?_
  refine lv_aload_n hx hb d_N_sideOf_25 rfl (lv_at hl 0 rfl) ?_
  refine va_get (D := (dC, dI)) (ci := 4) (v := .ref bYs) (C := R_N) (T := T_N) (N := 10) hx hb hts in_N hown hK.1 hP 0 rfl rfl 2 (by decide) (hts _ bw_359) (fun _ h9 => h9) rfl d_N_sideOf_26 ?_
  refine lv_iload_n hx hb d_N_sideOf_29 rfl (lv_at hl 2 rfl) ?_
  obtain ⟨hi4, hf⟩ := o_i hf
  refine va_iald (cA := cI) (n := 20) (f := n_ys) hx hb hK.1 hP 2 0 rfl rfl hi4 d_N_sideOf_30 ?_
  refine lv_aload_n hx hb d_N_sideOf_31 rfl (lv_at hl 0 rfl) ?_
  refine va_get (D := (dC, dI)) (ci := 4) (v := .ref bYs) (C := R_N) (T := T_N) (N := 10) hx hb hts in_N hown hK.1 hP 0 rfl rfl 2 (by decide) (hts _ bw_359) (fun _ h9 => h9) rfl d_N_sideOf_32 ?_
  refine lv_iload_n hx hb d_N_sideOf_35 rfl (lv_at hl 1 rfl) ?_
  obtain ⟨hi5, hf⟩ := o_i hf
  refine va_iald (cA := cI) (n := 20) (f := n_ys) hx hb hK.1 hP 2 0 rfl rfl hi5 d_N_sideOf_36 ?_
  refine lv_isub hx hb d_N_sideOf_37 ?_
  refine lv_i2l hx hb d_N_sideOf_38 rfl ?_
  refine lv_iload_n hx hb d_N_sideOf_39 rfl (lv_at hl 3 rfl) ?_
  refine lv_aload_n hx hb d_N_sideOf_40 rfl (lv_at hl 0 rfl) ?_
  refine va_get (D := (dC, dI)) (ci := 4) (v := .ref bXs) (C := R_N) (T := T_N) (N := 10) hx hb hts in_N hown hK.1 hP 0 rfl rfl 1 (by decide) (hts _ bw_358) (fun _ h9 => h9) rfl d_N_sideOf_41 ?_
  refine lv_iload_n hx hb d_N_sideOf_44 rfl (lv_at hl 1 rfl) ?_
  obtain ⟨hi6, hf⟩ := o_i hf
  refine va_iald (cA := cI) (n := 20) (f := n_xs) hx hb hK.1 hP 1 0 rfl rfl hi6 d_N_sideOf_45 ?_
  refine lv_isub hx hb d_N_sideOf_46 ?_
  refine lv_i2l hx hb d_N_sideOf_47 rfl ?_
  refine lv_lmul hx hb d_N_sideOf_48 ?_
  refine lv_lsub hx hb d_N_sideOf_49 ?_
  refine lv_lstore (lv' := [(5, .long ((((n_xs x2.toNatClampNeg) - (n_xs x1.toNatClampNeg)).toInt64 * (x4 - (n_ys x1.toNatClampNeg)).toInt64) - (((n_ys x2.toNatClampNeg) - (n_ys x1.toNatClampNeg)).toInt64 * (x3 - (n_xs x1.toNatClampNeg)).toInt64))), (0, .ref gN), (1, .int x1), (2, .int x2), (3, .int x3), (4, .int x4)]) hx hb d_N_sideOf_50 hl (by decide) rfl (fun ls hl => ?_)
  refine lv_lload hx hb d_N_sideOf_52 (lv_at hl 0 rfl) ?_
  refine lv_lconst (v := (0 : Int64)) hx hb d_N_sideOf_54 rfl ?_
  refine W.lcmp hx hb d_N_sideOf_55 ?_
  refine lv_if_le (tgt := 63) hx hb d_N_sideOf_56 (by decide) (fun hc7 => ?_) (fun hc7 => ?_)
  · have hf := o_t hf hc7
    refine lv_lload hx hb d_N_sideOf_63 (lv_at hl 0 rfl) ?_
    refine lv_lconst (v := (0 : Int64)) hx hb d_N_sideOf_65 rfl ?_
    refine W.lcmp hx hb d_N_sideOf_66 ?_
    refine lv_if_ge (tgt := 74) hx hb d_N_sideOf_67 (by decide) (fun hc8 => ?_) (fun hc8 => ?_)
    · have hf := o_t hf hc8
      refine lv_iconst (v := (0 : Int32)) hx hb d_N_sideOf_74 rfl ?_
      cases hf
      exact rr_i hx hb hr hlocks d_N_sideOf_75
    · have hf := o_f hf hc8
      refine lv_iconst (v := (-1 : Int32)) hx hb d_N_sideOf_70 rfl ?_
      refine lv_goto (tgt := 75) hx hb d_N_sideOf_71 (by decide) ?_
      cases hf
      exact rr_i hx hb hr hlocks d_N_sideOf_75
  · have hf := o_f hf hc7
    refine lv_iconst (v := (1 : Int32)) hx hb d_N_sideOf_59 rfl ?_
    refine lv_goto (tgt := 75) hx hb d_N_sideOf_60 (by decide) ?_
    cases hf
    exact rr_i hx hb hr hlocks d_N_sideOf_75
set_option maxHeartbeats 4000000 in
set_option maxRecDepth 100000 in
theorem c_N_side (l : Launch) (dC : Nat → ClassId) (dI : Nat → Nat → Nat) (cI cZ : ClassId) (gN bTh bXs bYs bA bB bC bEd : Nat) (n_xs : Nat → Int32) (n_ys : Nat → Int32) (n_kn : Int32) (n_ct : Int32) (n_rd : Int32) (x1 : Int32) (x2 : Int32) (x3 : Int32) (rv : Int32) (hf : f_N_side n_xs n_ys x1 x2 x3 = some rv) : Met l y_N_side w_N_side ({ frames := 1, cells := 0, slots := 0, locals := 26 } : Room) (PcR dC dI cI cZ [.ref gN, .int x1, .int x2, .int x3] [(gN, .inr (4, [.ref bTh, .ref bXs, .ref bYs, .int n_kn, .int n_ct, .ref bA, .ref bB, .ref bC, .int n_rd, .ref bEd])), (bXs, .inl (cI, 20, .inl n_xs)), (bYs, .inl (cI, 20, .inl n_ys))]) (vp_Si (fun r => r = rv)) 0 0 (fun _ => False) := by
  refine Met.ofW (cc := b_N_side) (maxL := 4) (ret := (some .int)) (by decide) rfl ?_
  intro p e s m args below meth c s₁ B hml hv
  obtain ⟨rfl, hP, hK⟩ := hv
  have C0 : cx p s m _ meth c b_N_side (some .int) 4 R_N := ⟨B.exec, B.bytes, B.returns, hml, fun w hw => atoms_spec (ws := w_N_side) B.pre w (List.mem_cons_of_mem _ hw), findClass_of_methodNamed B.named, B.notSynchronized⟩
  obtain ⟨hx, hb, hr, hml, hts, hown, hlocks⟩ := id C0
  have hl := lv_entry ([.ref gN, .int x1, .int x2, .int x3]) (n := 4) (Nat.le_of_ble_eq_true rfl)
  rw [lg_entry_eq]
  generalize (lg_sl ([.ref gN, .int x1, .int x2, .int x3]) ++ List.replicate (4 - (lg_sl ([.ref gN, .int x1, .int x2, .int x3])).length) Slot.unset).toArray = ls at hl ⊢
  have hl : lv_has ls 4 [(0, .ref gN), (1, .int x1), (2, .int x2), (3, .int x3)] := hl
  refine lv_aload_n hx hb d_N_side_0 rfl (lv_at hl 0 rfl) ?_
  refine lv_iload_n hx hb d_N_side_1 rfl (lv_at hl 1 rfl) ?_
  refine lv_iload_n hx hb d_N_side_2 rfl (lv_at hl 2 rfl) ?_
  refine lv_aload_n hx hb d_N_side_3 rfl (lv_at hl 0 rfl) ?_
  refine va_get (D := (dC, dI)) (ci := 4) (v := .ref bXs) (C := R_N) (T := T_N) (N := 10) hx hb hts in_N hown hK.1 hP 0 rfl rfl 1 (by decide) (hts _ bw_358) (fun _ h9 => h9) rfl d_N_side_4 ?_
  refine lv_iload_n hx hb d_N_side_7 rfl (lv_at hl 3 rfl) ?_
  obtain ⟨hi1, hf⟩ := o_i hf
  refine va_iald (cA := cI) (n := 20) (f := n_xs) hx hb hK.1 hP 1 0 rfl rfl hi1 d_N_side_8 ?_
  refine lv_aload_n hx hb d_N_side_9 rfl (lv_at hl 0 rfl) ?_
  refine va_get (D := (dC, dI)) (ci := 4) (v := .ref bYs) (C := R_N) (T := T_N) (N := 10) hx hb hts in_N hown hK.1 hP 0 rfl rfl 2 (by decide) (hts _ bw_359) (fun _ h9 => h9) rfl d_N_side_10 ?_
  refine lv_iload_n hx hb d_N_side_13 rfl (lv_at hl 3 rfl) ?_
  obtain ⟨hi2, hf⟩ := o_i hf
  refine va_iald (cA := cI) (n := 20) (f := n_ys) hx hb hK.1 hP 2 0 rfl rfl hi2 d_N_side_14 ?_
  obtain ⟨r3, hv5, hf⟩ := o_b hf
  refine rc_i (va_runV (As := [.int x1, .int x2, .int (n_xs x3.toNatClampNeg), .int (n_ys x3.toNatClampNeg)]) (rest := []) ⟨hx, hb, hml, hown, hts⟩ (c_N_sideOf l dC dI cI cZ gN bTh bXs bYs bA bB bC bEd n_xs n_ys n_kn n_ct n_rd x1 x2 (n_xs x3.toNatClampNeg) (n_ys x3.toNatClampNeg) r3 hv5) (cwV 4 hts (gd_V bw_438 bw_440 bp_18 bw_5 bw_441) rfl rfl rfl ⟨rfl, hd_N_sideOf⟩ ⟨Nat.le_of_ble_eq_true rfl, Nat.le_of_ble_eq_true rfl⟩) (pv_r (wc := [(gN, .inr (4, [.ref bTh, .ref bXs, .ref bYs, .int n_kn, .int n_ct, .ref bA, .ref bB, .ref bC, .int n_rd, .ref bEd])), (bXs, .inl (cI, 20, .inl n_xs)), (bYs, .inl (cI, 20, .inl n_ys))]) hK hP [0, 1, 2] rfl 0 (ci := 4) rfl rfl) rfl rfl hl.1 rfl (lv_room (Nat.le_of_ble_eq_true rfl)) d_N_side_15 ⟨Nat.zero_le _, Nat.zero_le _⟩) ?_
  cases hf
  exact rr_i hx hb hr hlocks d_N_side_18
set_option maxHeartbeats 4000000 in
set_option maxRecDepth 100000 in
theorem c_N_low (l : Launch) (dC : Nat → ClassId) (dI : Nat → Nat → Nat) (cI cZ : ClassId) (x0 : Int64) (rv : Int64) (hf : f_N_low x0 = some rv) : Met l y_N_low w_N_low ({ frames := 0, cells := 0, slots := 0, locals := 0 } : Room) (PcR dC dI cI cZ [.long x0] []) (vp_Sl (fun r => r = rv)) 0 0 (fun _ => False) := by
  refine Met.ofW (cc := b_N_low) (maxL := 2) (ret := (some .long)) (by decide) rfl ?_
  intro p e s m args below meth c s₁ B hml hv
  obtain ⟨rfl, hP, hK⟩ := hv
  have C0 : cx p s m _ meth c b_N_low (some .long) 2 R_N := ⟨B.exec, B.bytes, B.returns, hml, fun w hw => atoms_spec (ws := w_N_low) B.pre w (List.mem_cons_of_mem _ hw), findClass_of_methodNamed B.named, B.notSynchronized⟩
  obtain ⟨hx, hb, hr, hml, hts, hown, hlocks⟩ := id C0
  have hl := lv_entry ([.long x0]) (n := 2) (Nat.le_of_ble_eq_true rfl)
  rw [lg_entry_eq]
  generalize (lg_sl ([.long x0]) ++ List.replicate (2 - (lg_sl ([.long x0])).length) Slot.unset).toArray = ls at hl ⊢
  have hl : lv_has ls 2 [(0, .long x0)] := hl
  refine lv_lload_n hx hb d_N_low_0 rfl (lv_at hl 0 rfl) ?_
  refine lv_ldc2 (v := (4194303 : Int64)) hx hb hown (hts _ bw_456) d_N_low_1 ?_
  refine lv_land hx hb d_N_low_4 ?_
  cases hf
  exact rr_l hx hb hr hlocks d_N_low_5
set_option maxHeartbeats 4000000 in
set_option maxRecDepth 100000 in
theorem t_N_sign_b192 {p : Program} {l : Launch} {e : Env} {s : State} {m : MethodId} {args : Array Value} {below : List Frame} {meth : Method} {c : Code} {dC : Nat → ClassId} {dI : Nat → Nat → Nat} {cI cZ : ClassId} {rv : Int32} (C0 : cx p s m args meth c b_N_sign (some .int) 19 R_N) (hK : gK dC dI cI cZ s) (hP : va_P (dC, dI) vwCl [] s.heap) : ∀ (x16 : Int64) (z0 : Int32), f_N_sign_b192  x16 z0 = some rv → ∀ (ls : Array Slot), lv_has ls 19 [(16, .long x16)] → W p l e (headSpec w_N_sign ({ frames := 1, cells := 0, slots := 0, locals := 21 } : Room)).room s m args below meth c s.heap [] 0 0 (MQ below (vp_Si (fun r => r = rv)) args s 0 0 (fun _ => False)) (F0 m 192 ls [.int z0]) := by
  obtain ⟨hx, hb, hr, hml, hts, hown, hlocks⟩ := id C0
  intro x16 z0 hf ls hl
  refine lv_istore (lv' := [(18, .int z0), (16, .long x16)]) hx hb d_N_sign_192 hl (by decide) rfl (fun ls hl => ?_)
  refine lv_lload hx hb d_N_sign_194 (lv_at hl 1 rfl) ?_
  refine lv_lconst (v := (0 : Int64)) hx hb d_N_sign_196 rfl ?_
  refine W.lcmp hx hb d_N_sign_197 ?_
  refine lv_if_ge (tgt := 205) hx hb d_N_sign_198 (by decide) (fun hc1 => ?_) (fun hc1 => ?_)
  · have hf := o_t hf hc1
    refine lv_lload hx hb d_N_sign_205 (lv_at hl 1 rfl) ?_
    refine lv_lconst (v := (0 : Int64)) hx hb d_N_sign_207 rfl ?_
    refine W.lcmp hx hb d_N_sign_208 ?_
    refine lv_if_gt (tgt := 217) hx hb d_N_sign_209 (by decide) (fun hc2 => ?_) (fun hc2 => ?_)
    · have hf := o_t hf hc2
      refine lv_iconst (v := (1 : Int32)) hx hb d_N_sign_217 rfl ?_
      refine lv_goto (tgt := 222) hx hb d_N_sign_218 (by decide) ?_
      cases hf
      exact rr_i hx hb hr hlocks d_N_sign_222
    · have hf := o_f hf hc2
      refine lv_iload hx hb d_N_sign_212 (lv_at hl 0 rfl) ?_
      refine lv_if_eq (tgt := 221) hx hb d_N_sign_214 (by decide) (fun hc3 => ?_) (fun hc3 => ?_)
      · have hf := o_t hf hc3
        refine lv_iconst (v := (0 : Int32)) hx hb d_N_sign_221 rfl ?_
        cases hf
        exact rr_i hx hb hr hlocks d_N_sign_222
      · have hf := o_f hf hc3
        refine lv_iconst (v := (1 : Int32)) hx hb d_N_sign_217 rfl ?_
        refine lv_goto (tgt := 222) hx hb d_N_sign_218 (by decide) ?_
        cases hf
        exact rr_i hx hb hr hlocks d_N_sign_222
  · have hf := o_f hf hc1
    refine lv_iconst (v := (-1 : Int32)) hx hb d_N_sign_201 rfl ?_
    refine lv_goto (tgt := 222) hx hb d_N_sign_202 (by decide) ?_
    cases hf
    exact rr_i hx hb hr hlocks d_N_sign_222
set_option maxHeartbeats 4000000 in
set_option maxRecDepth 100000 in
theorem c_N_sign (l : Launch) (dC : Nat → ClassId) (dI : Nat → Nat → Nat) (cI cZ : ClassId) (x0 : Int64) (x2 : Int64) (x4 : Int64) (x6 : Int64) (x8 : Int64) (x10 : Int64) (rv : Int32) (hf : f_N_sign x0 x2 x4 x6 x8 x10 = some rv) : Met l y_N_sign w_N_sign ({ frames := 1, cells := 0, slots := 0, locals := 21 } : Room) (PcR dC dI cI cZ [.long x0, .long x2, .long x4, .long x6, .long x8, .long x10] []) (vp_Si (fun r => r = rv)) 0 0 (fun _ => False) := by
  refine Met.ofW (cc := b_N_sign) (maxL := 19) (ret := (some .int)) (by decide) rfl ?_
  intro p e s m args below meth c s₁ B hml hv
  obtain ⟨rfl, hP, hK⟩ := hv
  have C0 : cx p s m _ meth c b_N_sign (some .int) 19 R_N := ⟨B.exec, B.bytes, B.returns, hml, fun w hw => atoms_spec (ws := w_N_sign) B.pre w (List.mem_cons_of_mem _ hw), findClass_of_methodNamed B.named, B.notSynchronized⟩
  obtain ⟨hx, hb, hr, hml, hts, hown, hlocks⟩ := id C0
  have hl := lv_entry ([.long x0, .long x2, .long x4, .long x6, .long x8, .long x10]) (n := 19) (Nat.le_of_ble_eq_true rfl)
  rw [lg_entry_eq]
  generalize (lg_sl ([.long x0, .long x2, .long x4, .long x6, .long x8, .long x10]) ++ List.replicate (19 - (lg_sl ([.long x0, .long x2, .long x4, .long x6, .long x8, .long x10])).length) Slot.unset).toArray = ls at hl ⊢
  have hl : lv_has ls 19 [(0, .long x0), (2, .long x2), (4, .long x4), (6, .long x6), (8, .long x8), (10, .long x10)] := hl
  refine lv_lload_n hx hb d_N_sign_0 rfl (lv_at hl 0 rfl) ?_
  obtain ⟨r4, hv6, hf⟩ := o_b hf
  refine rc_l (va_runS (As := [.long x0]) (rest := []) ⟨hx, hb, hml, hown, hts⟩ (c_N_low l dC dI cI cZ x0 r4 hv6) (va_cwS 1 hts (gd_S bw_453 bw_454 bw_5 bw_455) rfl rfl rfl hd_N_low ⟨Nat.le_of_ble_eq_true rfl, Nat.le_of_ble_eq_true rfl⟩) (ps_r (wc := []) hK hP [] rfl) rfl rfl hl.1 rfl (lv_room (Nat.le_of_ble_eq_true rfl)) d_N_sign_1 ⟨Nat.zero_le _, Nat.zero_le _⟩) ?_
  refine lv_lload_n hx hb d_N_sign_4 rfl (lv_at hl 1 rfl) ?_
  obtain ⟨r7, hv9, hf⟩ := o_b hf
  refine rc_l (va_runS (As := [.long x2]) (rest := [.long r4]) ⟨hx, hb, hml, hown, hts⟩ (c_N_low l dC dI cI cZ x2 r7 hv9) (va_cwS 1 hts (gd_S bw_453 bw_454 bw_5 bw_455) rfl rfl rfl hd_N_low ⟨Nat.le_of_ble_eq_true rfl, Nat.le_of_ble_eq_true rfl⟩) (ps_r (wc := []) hK hP [] rfl) rfl rfl hl.1 rfl (lv_room (Nat.le_of_ble_eq_true rfl)) d_N_sign_5 ⟨Nat.zero_le _, Nat.zero_le _⟩) ?_
  refine lv_lmul hx hb d_N_sign_8 ?_
  refine lv_lload hx hb d_N_sign_9 (lv_at hl 2 rfl) ?_
  obtain ⟨r10, hv12, hf⟩ := o_b hf
  refine rc_l (va_runS (As := [.long x4]) (rest := [.long (r4 * r7)]) ⟨hx, hb, hml, hown, hts⟩ (c_N_low l dC dI cI cZ x4 r10 hv12) (va_cwS 1 hts (gd_S bw_453 bw_454 bw_5 bw_455) rfl rfl rfl hd_N_low ⟨Nat.le_of_ble_eq_true rfl, Nat.le_of_ble_eq_true rfl⟩) (ps_r (wc := []) hK hP [] rfl) rfl rfl hl.1 rfl (lv_room (Nat.le_of_ble_eq_true rfl)) d_N_sign_11 ⟨Nat.zero_le _, Nat.zero_le _⟩) ?_
  refine lv_lload hx hb d_N_sign_14 (lv_at hl 3 rfl) ?_
  obtain ⟨r13, hv15, hf⟩ := o_b hf
  refine rc_l (va_runS (As := [.long x6]) (rest := [.long r10, .long (r4 * r7)]) ⟨hx, hb, hml, hown, hts⟩ (c_N_low l dC dI cI cZ x6 r13 hv15) (va_cwS 1 hts (gd_S bw_453 bw_454 bw_5 bw_455) rfl rfl rfl hd_N_low ⟨Nat.le_of_ble_eq_true rfl, Nat.le_of_ble_eq_true rfl⟩) (ps_r (wc := []) hK hP [] rfl) rfl rfl hl.1 rfl (lv_room (Nat.le_of_ble_eq_true rfl)) d_N_sign_16 ⟨Nat.zero_le _, Nat.zero_le _⟩) ?_
  refine lv_lmul hx hb d_N_sign_19 ?_
  refine lv_ladd hx hb d_N_sign_20 ?_
  refine lv_lload hx hb d_N_sign_21 (lv_at hl 4 rfl) ?_
  obtain ⟨r16, hv18, hf⟩ := o_b hf
  refine rc_l (va_runS (As := [.long x8]) (rest := [.long ((r4 * r7) + (r10 * r13))]) ⟨hx, hb, hml, hown, hts⟩ (c_N_low l dC dI cI cZ x8 r16 hv18) (va_cwS 1 hts (gd_S bw_453 bw_454 bw_5 bw_455) rfl rfl rfl hd_N_low ⟨Nat.le_of_ble_eq_true rfl, Nat.le_of_ble_eq_true rfl⟩) (ps_r (wc := []) hK hP [] rfl) rfl rfl hl.1 rfl (lv_room (Nat.le_of_ble_eq_true rfl)) d_N_sign_23 ⟨Nat.zero_le _, Nat.zero_le _⟩) ?_
  refine lv_lload hx hb d_N_sign_26 (lv_at hl 5 rfl) ?_
  obtain ⟨r19, hv21, hf⟩ := o_b hf
  refine rc_l (va_runS (As := [.long x10]) (rest := [.long r16, .long ((r4 * r7) + (r10 * r13))]) ⟨hx, hb, hml, hown, hts⟩ (c_N_low l dC dI cI cZ x10 r19 hv21) (va_cwS 1 hts (gd_S bw_453 bw_454 bw_5 bw_455) rfl rfl rfl hd_N_low ⟨Nat.le_of_ble_eq_true rfl, Nat.le_of_ble_eq_true rfl⟩) (ps_r (wc := []) hK hP [] rfl) rfl rfl hl.1 rfl (lv_room (Nat.le_of_ble_eq_true rfl)) d_N_sign_28 ⟨Nat.zero_le _, Nat.zero_le _⟩) ?_
  refine lv_lmul hx hb d_N_sign_31 ?_
  refine lv_ladd hx hb d_N_sign_32 ?_
  refine lv_lstore (lv' := [(12, .long (((r4 * r7) + (r10 * r13)) + (r16 * r19))), (0, .long x0), (2, .long x2), (4, .long x4), (6, .long x6), (8, .long x8), (10, .long x10)]) hx hb d_N_sign_33 hl (by decide) rfl (fun ls hl => ?_)
  refine lv_lload_n hx hb d_N_sign_35 rfl (lv_at hl 1 rfl) ?_
  refine lv_bipush (v := (22 : Int32)) hx hb d_N_sign_36 rfl ?_
  refine lv_lshr hx hb d_N_sign_38 rfl ?_
  refine lv_lload_n hx hb d_N_sign_39 rfl (lv_at hl 2 rfl) ?_
  obtain ⟨r22, hv24, hf⟩ := o_b hf
  refine rc_l (va_runS (As := [.long x2]) (rest := [.long (x0 >>> ((22 : Int32).toInt64 &&& 63))]) ⟨hx, hb, hml, hown, hts⟩ (c_N_low l dC dI cI cZ x2 r22 hv24) (va_cwS 1 hts (gd_S bw_453 bw_454 bw_5 bw_455) rfl rfl rfl hd_N_low ⟨Nat.le_of_ble_eq_true rfl, Nat.le_of_ble_eq_true rfl⟩) (ps_r (wc := []) hK hP [] rfl) rfl rfl hl.1 rfl (lv_room (Nat.le_of_ble_eq_true rfl)) d_N_sign_40 ⟨Nat.zero_le _, Nat.zero_le _⟩) ?_
  refine lv_lmul hx hb d_N_sign_43 ?_
  refine lv_lload_n hx hb d_N_sign_44 rfl (lv_at hl 1 rfl) ?_
  obtain ⟨r25, hv27, hf⟩ := o_b hf
  refine rc_l (va_runS (As := [.long x0]) (rest := [.long ((x0 >>> ((22 : Int32).toInt64 &&& 63)) * r22)]) ⟨hx, hb, hml, hown, hts⟩ (c_N_low l dC dI cI cZ x0 r25 hv27) (va_cwS 1 hts (gd_S bw_453 bw_454 bw_5 bw_455) rfl rfl rfl hd_N_low ⟨Nat.le_of_ble_eq_true rfl, Nat.le_of_ble_eq_true rfl⟩) (ps_r (wc := []) hK hP [] rfl) rfl rfl hl.1 rfl (lv_room (Nat.le_of_ble_eq_true rfl)) d_N_sign_45 ⟨Nat.zero_le _, Nat.zero_le _⟩) ?_
  refine lv_lload_n hx hb d_N_sign_48 rfl (lv_at hl 2 rfl) ?_
  refine lv_bipush (v := (22 : Int32)) hx hb d_N_sign_49 rfl ?_
  refine lv_lshr hx hb d_N_sign_51 rfl ?_
  refine lv_lmul hx hb d_N_sign_52 ?_
  refine lv_ladd hx hb d_N_sign_53 ?_
  refine lv_lstore (lv' := [(14, .long (((x0 >>> ((22 : Int32).toInt64 &&& 63)) * r22) + (r25 * (x2 >>> ((22 : Int32).toInt64 &&& 63))))), (12, .long (((r4 * r7) + (r10 * r13)) + (r16 * r19))), (0, .long x0), (2, .long x2), (4, .long x4), (6, .long x6), (8, .long x8), (10, .long x10)]) hx hb d_N_sign_54 hl (by decide) rfl (fun ls hl => ?_)
  refine lv_lload hx hb d_N_sign_56 (lv_at hl 0 rfl) ?_
  refine lv_lload hx hb d_N_sign_58 (lv_at hl 4 rfl) ?_
  refine lv_bipush (v := (22 : Int32)) hx hb d_N_sign_60 rfl ?_
  refine lv_lshr hx hb d_N_sign_62 rfl ?_
  refine lv_lload hx hb d_N_sign_63 (lv_at hl 5 rfl) ?_
  obtain ⟨r28, hv30, hf⟩ := o_b hf
  refine rc_l (va_runS (As := [.long x6]) (rest := [.long (x4 >>> ((22 : Int32).toInt64 &&& 63)), .long (((x0 >>> ((22 : Int32).toInt64 &&& 63)) * r22) + (r25 * (x2 >>> ((22 : Int32).toInt64 &&& 63))))]) ⟨hx, hb, hml, hown, hts⟩ (c_N_low l dC dI cI cZ x6 r28 hv30) (va_cwS 1 hts (gd_S bw_453 bw_454 bw_5 bw_455) rfl rfl rfl hd_N_low ⟨Nat.le_of_ble_eq_true rfl, Nat.le_of_ble_eq_true rfl⟩) (ps_r (wc := []) hK hP [] rfl) rfl rfl hl.1 rfl (lv_room (Nat.le_of_ble_eq_true rfl)) d_N_sign_65 ⟨Nat.zero_le _, Nat.zero_le _⟩) ?_
  refine lv_lmul hx hb d_N_sign_68 ?_
  refine lv_ladd hx hb d_N_sign_69 ?_
  refine lv_lload hx hb d_N_sign_70 (lv_at hl 4 rfl) ?_
  obtain ⟨r31, hv33, hf⟩ := o_b hf
  refine rc_l (va_runS (As := [.long x4]) (rest := [.long ((((x0 >>> ((22 : Int32).toInt64 &&& 63)) * r22) + (r25 * (x2 >>> ((22 : Int32).toInt64 &&& 63)))) + ((x4 >>> ((22 : Int32).toInt64 &&& 63)) * r28))]) ⟨hx, hb, hml, hown, hts⟩ (c_N_low l dC dI cI cZ x4 r31 hv33) (va_cwS 1 hts (gd_S bw_453 bw_454 bw_5 bw_455) rfl rfl rfl hd_N_low ⟨Nat.le_of_ble_eq_true rfl, Nat.le_of_ble_eq_true rfl⟩) (ps_r (wc := []) hK hP [] rfl) rfl rfl hl.1 rfl (lv_room (Nat.le_of_ble_eq_true rfl)) d_N_sign_72 ⟨Nat.zero_le _, Nat.zero_le _⟩) ?_
  refine lv_lload hx hb d_N_sign_75 (lv_at hl 5 rfl) ?_
  refine lv_bipush (v := (22 : Int32)) hx hb d_N_sign_77 rfl ?_
  refine lv_lshr hx hb d_N_sign_79 rfl ?_
  refine lv_lmul hx hb d_N_sign_80 ?_
  refine lv_ladd hx hb d_N_sign_81 ?_
  refine lv_lstore (lv' := [(14, .long (((((x0 >>> ((22 : Int32).toInt64 &&& 63)) * r22) + (r25 * (x2 >>> ((22 : Int32).toInt64 &&& 63)))) + ((x4 >>> ((22 : Int32).toInt64 &&& 63)) * r28)) + (r31 * (x6 >>> ((22 : Int32).toInt64 &&& 63))))), (12, .long (((r4 * r7) + (r10 * r13)) + (r16 * r19))), (0, .long x0), (2, .long x2), (4, .long x4), (6, .long x6), (8, .long x8), (10, .long x10)]) hx hb d_N_sign_82 hl (by decide) rfl (fun ls hl => ?_)
  refine lv_lload hx hb d_N_sign_84 (lv_at hl 0 rfl) ?_
  refine lv_lload hx hb d_N_sign_86 (lv_at hl 6 rfl) ?_
  refine lv_bipush (v := (22 : Int32)) hx hb d_N_sign_88 rfl ?_
  refine lv_lshr hx hb d_N_sign_90 rfl ?_
  refine lv_lload hx hb d_N_sign_91 (lv_at hl 7 rfl) ?_
  obtain ⟨r34, hv36, hf⟩ := o_b hf
  refine rc_l (va_runS (As := [.long x10]) (rest := [.long (x8 >>> ((22 : Int32).toInt64 &&& 63)), .long (((((x0 >>> ((22 : Int32).toInt64 &&& 63)) * r22) + (r25 * (x2 >>> ((22 : Int32).toInt64 &&& 63)))) + ((x4 >>> ((22 : Int32).toInt64 &&& 63)) * r28)) + (r31 * (x6 >>> ((22 : Int32).toInt64 &&& 63))))]) ⟨hx, hb, hml, hown, hts⟩ (c_N_low l dC dI cI cZ x10 r34 hv36) (va_cwS 1 hts (gd_S bw_453 bw_454 bw_5 bw_455) rfl rfl rfl hd_N_low ⟨Nat.le_of_ble_eq_true rfl, Nat.le_of_ble_eq_true rfl⟩) (ps_r (wc := []) hK hP [] rfl) rfl rfl hl.1 rfl (lv_room (Nat.le_of_ble_eq_true rfl)) d_N_sign_93 ⟨Nat.zero_le _, Nat.zero_le _⟩) ?_
  refine lv_lmul hx hb d_N_sign_96 ?_
  refine lv_ladd hx hb d_N_sign_97 ?_
  refine lv_lload hx hb d_N_sign_98 (lv_at hl 6 rfl) ?_
  obtain ⟨r37, hv39, hf⟩ := o_b hf
  refine rc_l (va_runS (As := [.long x8]) (rest := [.long ((((((x0 >>> ((22 : Int32).toInt64 &&& 63)) * r22) + (r25 * (x2 >>> ((22 : Int32).toInt64 &&& 63)))) + ((x4 >>> ((22 : Int32).toInt64 &&& 63)) * r28)) + (r31 * (x6 >>> ((22 : Int32).toInt64 &&& 63)))) + ((x8 >>> ((22 : Int32).toInt64 &&& 63)) * r34))]) ⟨hx, hb, hml, hown, hts⟩ (c_N_low l dC dI cI cZ x8 r37 hv39) (va_cwS 1 hts (gd_S bw_453 bw_454 bw_5 bw_455) rfl rfl rfl hd_N_low ⟨Nat.le_of_ble_eq_true rfl, Nat.le_of_ble_eq_true rfl⟩) (ps_r (wc := []) hK hP [] rfl) rfl rfl hl.1 rfl (lv_room (Nat.le_of_ble_eq_true rfl)) d_N_sign_100 ⟨Nat.zero_le _, Nat.zero_le _⟩) ?_
  refine lv_lload hx hb d_N_sign_103 (lv_at hl 7 rfl) ?_
  refine lv_bipush (v := (22 : Int32)) hx hb d_N_sign_105 rfl ?_
  refine lv_lshr hx hb d_N_sign_107 rfl ?_
  refine lv_lmul hx hb d_N_sign_108 ?_
  refine lv_ladd hx hb d_N_sign_109 ?_
  refine lv_lstore (lv' := [(14, .long (((((((x0 >>> ((22 : Int32).toInt64 &&& 63)) * r22) + (r25 * (x2 >>> ((22 : Int32).toInt64 &&& 63)))) + ((x4 >>> ((22 : Int32).toInt64 &&& 63)) * r28)) + (r31 * (x6 >>> ((22 : Int32).toInt64 &&& 63)))) + ((x8 >>> ((22 : Int32).toInt64 &&& 63)) * r34)) + (r37 * (x10 >>> ((22 : Int32).toInt64 &&& 63))))), (12, .long (((r4 * r7) + (r10 * r13)) + (r16 * r19))), (0, .long x0), (2, .long x2), (4, .long x4), (6, .long x6), (8, .long x8), (10, .long x10)]) hx hb d_N_sign_110 hl (by decide) rfl (fun ls hl => ?_)
  refine lv_lload_n hx hb d_N_sign_112 rfl (lv_at hl 2 rfl) ?_
  refine lv_bipush (v := (22 : Int32)) hx hb d_N_sign_113 rfl ?_
  refine lv_lshr hx hb d_N_sign_115 rfl ?_
  refine lv_lload_n hx hb d_N_sign_116 rfl (lv_at hl 3 rfl) ?_
  refine lv_bipush (v := (22 : Int32)) hx hb d_N_sign_117 rfl ?_
  refine lv_lshr hx hb d_N_sign_119 rfl ?_
  refine lv_lmul hx hb d_N_sign_120 ?_
  refine lv_lload hx hb d_N_sign_121 (lv_at hl 4 rfl) ?_
  refine lv_bipush (v := (22 : Int32)) hx hb d_N_sign_123 rfl ?_
  refine lv_lshr hx hb d_N_sign_125 rfl ?_
  refine lv_lload hx hb d_N_sign_126 (lv_at hl 5 rfl) ?_
  refine lv_bipush (v := (22 : Int32)) hx hb d_N_sign_128 rfl ?_
  refine lv_lshr hx hb d_N_sign_130 rfl ?_
  refine lv_lmul hx hb d_N_sign_131 ?_
  refine lv_ladd hx hb d_N_sign_132 ?_
  refine lv_lload hx hb d_N_sign_133 (lv_at hl 6 rfl) ?_
  refine lv_bipush (v := (22 : Int32)) hx hb d_N_sign_135 rfl ?_
  refine lv_lshr hx hb d_N_sign_137 rfl ?_
  refine lv_lload hx hb d_N_sign_138 (lv_at hl 7 rfl) ?_
  refine lv_bipush (v := (22 : Int32)) hx hb d_N_sign_140 rfl ?_
  refine lv_lshr hx hb d_N_sign_142 rfl ?_
  refine lv_lmul hx hb d_N_sign_143 ?_
  refine lv_ladd hx hb d_N_sign_144 ?_
  refine lv_lstore (lv' := [(16, .long ((((x0 >>> ((22 : Int32).toInt64 &&& 63)) * (x2 >>> ((22 : Int32).toInt64 &&& 63))) + ((x4 >>> ((22 : Int32).toInt64 &&& 63)) * (x6 >>> ((22 : Int32).toInt64 &&& 63)))) + ((x8 >>> ((22 : Int32).toInt64 &&& 63)) * (x10 >>> ((22 : Int32).toInt64 &&& 63))))), (14, .long (((((((x0 >>> ((22 : Int32).toInt64 &&& 63)) * r22) + (r25 * (x2 >>> ((22 : Int32).toInt64 &&& 63)))) + ((x4 >>> ((22 : Int32).toInt64 &&& 63)) * r28)) + (r31 * (x6 >>> ((22 : Int32).toInt64 &&& 63)))) + ((x8 >>> ((22 : Int32).toInt64 &&& 63)) * r34)) + (r37 * (x10 >>> ((22 : Int32).toInt64 &&& 63))))), (12, .long (((r4 * r7) + (r10 * r13)) + (r16 * r19))), (0, .long x0), (2, .long x2), (4, .long x4), (6, .long x6), (8, .long x8), (10, .long x10)]) hx hb d_N_sign_145 hl (by decide) rfl (fun ls hl => ?_)
  refine lv_lload hx hb d_N_sign_147 (lv_at hl 1 rfl) ?_
  refine lv_lload hx hb d_N_sign_149 (lv_at hl 2 rfl) ?_
  refine lv_bipush (v := (22 : Int32)) hx hb d_N_sign_151 rfl ?_
  refine lv_lshr hx hb d_N_sign_153 rfl ?_
  refine lv_ladd hx hb d_N_sign_154 ?_
  refine lv_lstore (lv' := [(14, .long ((((((((x0 >>> ((22 : Int32).toInt64 &&& 63)) * r22) + (r25 * (x2 >>> ((22 : Int32).toInt64 &&& 63)))) + ((x4 >>> ((22 : Int32).toInt64 &&& 63)) * r28)) + (r31 * (x6 >>> ((22 : Int32).toInt64 &&& 63)))) + ((x8 >>> ((22 : Int32).toInt64 &&& 63)) * r34)) + (r37 * (x10 >>> ((22 : Int32).toInt64 &&& 63)))) + ((((r4 * r7) + (r10 * r13)) + (r16 * r19)) >>> ((22 : Int32).toInt64 &&& 63)))), (16, .long ((((x0 >>> ((22 : Int32).toInt64 &&& 63)) * (x2 >>> ((22 : Int32).toInt64 &&& 63))) + ((x4 >>> ((22 : Int32).toInt64 &&& 63)) * (x6 >>> ((22 : Int32).toInt64 &&& 63)))) + ((x8 >>> ((22 : Int32).toInt64 &&& 63)) * (x10 >>> ((22 : Int32).toInt64 &&& 63))))), (12, .long (((r4 * r7) + (r10 * r13)) + (r16 * r19))), (0, .long x0), (2, .long x2), (4, .long x4), (6, .long x6), (8, .long x8), (10, .long x10)]) hx hb d_N_sign_155 hl (by decide) rfl (fun ls hl => ?_)
  refine lv_lload hx hb d_N_sign_157 (lv_at hl 1 rfl) ?_
  refine lv_lload hx hb d_N_sign_159 (lv_at hl 0 rfl) ?_
  refine lv_bipush (v := (22 : Int32)) hx hb d_N_sign_161 rfl ?_
  refine lv_lshr hx hb d_N_sign_163 rfl ?_
  refine lv_ladd hx hb d_N_sign_164 ?_
  refine lv_lstore (lv' := [(16, .long (((((x0 >>> ((22 : Int32).toInt64 &&& 63)) * (x2 >>> ((22 : Int32).toInt64 &&& 63))) + ((x4 >>> ((22 : Int32).toInt64 &&& 63)) * (x6 >>> ((22 : Int32).toInt64 &&& 63)))) + ((x8 >>> ((22 : Int32).toInt64 &&& 63)) * (x10 >>> ((22 : Int32).toInt64 &&& 63)))) + (((((((((x0 >>> ((22 : Int32).toInt64 &&& 63)) * r22) + (r25 * (x2 >>> ((22 : Int32).toInt64 &&& 63)))) + ((x4 >>> ((22 : Int32).toInt64 &&& 63)) * r28)) + (r31 * (x6 >>> ((22 : Int32).toInt64 &&& 63)))) + ((x8 >>> ((22 : Int32).toInt64 &&& 63)) * r34)) + (r37 * (x10 >>> ((22 : Int32).toInt64 &&& 63)))) + ((((r4 * r7) + (r10 * r13)) + (r16 * r19)) >>> ((22 : Int32).toInt64 &&& 63))) >>> ((22 : Int32).toInt64 &&& 63)))), (14, .long ((((((((x0 >>> ((22 : Int32).toInt64 &&& 63)) * r22) + (r25 * (x2 >>> ((22 : Int32).toInt64 &&& 63)))) + ((x4 >>> ((22 : Int32).toInt64 &&& 63)) * r28)) + (r31 * (x6 >>> ((22 : Int32).toInt64 &&& 63)))) + ((x8 >>> ((22 : Int32).toInt64 &&& 63)) * r34)) + (r37 * (x10 >>> ((22 : Int32).toInt64 &&& 63)))) + ((((r4 * r7) + (r10 * r13)) + (r16 * r19)) >>> ((22 : Int32).toInt64 &&& 63)))), (12, .long (((r4 * r7) + (r10 * r13)) + (r16 * r19))), (0, .long x0), (2, .long x2), (4, .long x4), (6, .long x6), (8, .long x8), (10, .long x10)]) hx hb d_N_sign_165 hl (by decide) rfl (fun ls hl => ?_)
  refine lv_lload hx hb d_N_sign_167 (lv_at hl 2 rfl) ?_
  obtain ⟨r40, hv42, hf⟩ := o_b hf
  refine rc_l (va_runS (As := [.long (((r4 * r7) + (r10 * r13)) + (r16 * r19))]) (rest := []) ⟨hx, hb, hml, hown, hts⟩ (c_N_low l dC dI cI cZ (((r4 * r7) + (r10 * r13)) + (r16 * r19)) r40 hv42) (va_cwS 1 hts (gd_S bw_453 bw_454 bw_5 bw_455) rfl rfl rfl hd_N_low ⟨Nat.le_of_ble_eq_true rfl, Nat.le_of_ble_eq_true rfl⟩) (ps_r (wc := []) hK hP [] rfl) rfl rfl hl.1 rfl (lv_room (Nat.le_of_ble_eq_true rfl)) d_N_sign_169 ⟨Nat.zero_le _, Nat.zero_le _⟩) ?_
  refine lv_lconst (v := (0 : Int64)) hx hb d_N_sign_172 rfl ?_
  refine W.lcmp hx hb d_N_sign_173 ?_
  refine lv_if_ne (tgt := 187) hx hb d_N_sign_174 (by decide) (fun hc43 => ?_) (fun hc43 => ?_)
  · have hf := o_f hf hc43
    refine lv_iconst (v := (1 : Int32)) hx hb d_N_sign_187 rfl ?_
    refine lv_goto (tgt := 192) hx hb d_N_sign_188 (by decide) ?_
    exact t_N_sign_b192 C0 hK hP  (((((x0 >>> ((22 : Int32).toInt64 &&& 63)) * (x2 >>> ((22 : Int32).toInt64 &&& 63))) + ((x4 >>> ((22 : Int32).toInt64 &&& 63)) * (x6 >>> ((22 : Int32).toInt64 &&& 63)))) + ((x8 >>> ((22 : Int32).toInt64 &&& 63)) * (x10 >>> ((22 : Int32).toInt64 &&& 63)))) + (((((((((x0 >>> ((22 : Int32).toInt64 &&& 63)) * r22) + (r25 * (x2 >>> ((22 : Int32).toInt64 &&& 63)))) + ((x4 >>> ((22 : Int32).toInt64 &&& 63)) * r28)) + (r31 * (x6 >>> ((22 : Int32).toInt64 &&& 63)))) + ((x8 >>> ((22 : Int32).toInt64 &&& 63)) * r34)) + (r37 * (x10 >>> ((22 : Int32).toInt64 &&& 63)))) + ((((r4 * r7) + (r10 * r13)) + (r16 * r19)) >>> ((22 : Int32).toInt64 &&& 63))) >>> ((22 : Int32).toInt64 &&& 63))) (1 : Int32) hf ls (lv_sub hl [0] rfl)
  · have hf := o_t hf hc43
    refine lv_lload hx hb d_N_sign_177 (lv_at hl 1 rfl) ?_
    obtain ⟨r44, hv46, hf⟩ := o_b hf
    refine rc_l (va_runS (As := [.long ((((((((x0 >>> ((22 : Int32).toInt64 &&& 63)) * r22) + (r25 * (x2 >>> ((22 : Int32).toInt64 &&& 63)))) + ((x4 >>> ((22 : Int32).toInt64 &&& 63)) * r28)) + (r31 * (x6 >>> ((22 : Int32).toInt64 &&& 63)))) + ((x8 >>> ((22 : Int32).toInt64 &&& 63)) * r34)) + (r37 * (x10 >>> ((22 : Int32).toInt64 &&& 63)))) + ((((r4 * r7) + (r10 * r13)) + (r16 * r19)) >>> ((22 : Int32).toInt64 &&& 63)))]) (rest := []) ⟨hx, hb, hml, hown, hts⟩ (c_N_low l dC dI cI cZ ((((((((x0 >>> ((22 : Int32).toInt64 &&& 63)) * r22) + (r25 * (x2 >>> ((22 : Int32).toInt64 &&& 63)))) + ((x4 >>> ((22 : Int32).toInt64 &&& 63)) * r28)) + (r31 * (x6 >>> ((22 : Int32).toInt64 &&& 63)))) + ((x8 >>> ((22 : Int32).toInt64 &&& 63)) * r34)) + (r37 * (x10 >>> ((22 : Int32).toInt64 &&& 63)))) + ((((r4 * r7) + (r10 * r13)) + (r16 * r19)) >>> ((22 : Int32).toInt64 &&& 63))) r44 hv46) (va_cwS 1 hts (gd_S bw_453 bw_454 bw_5 bw_455) rfl rfl rfl hd_N_low ⟨Nat.le_of_ble_eq_true rfl, Nat.le_of_ble_eq_true rfl⟩) (ps_r (wc := []) hK hP [] rfl) rfl rfl hl.1 rfl (lv_room (Nat.le_of_ble_eq_true rfl)) d_N_sign_179 ⟨Nat.zero_le _, Nat.zero_le _⟩) ?_
    refine lv_lconst (v := (0 : Int64)) hx hb d_N_sign_182 rfl ?_
    refine W.lcmp hx hb d_N_sign_183 ?_
    refine lv_if_eq (tgt := 191) hx hb d_N_sign_184 (by decide) (fun hc47 => ?_) (fun hc47 => ?_)
    · have hf := o_t hf hc47
      refine lv_iconst (v := (0 : Int32)) hx hb d_N_sign_191 rfl ?_
      exact t_N_sign_b192 C0 hK hP  (((((x0 >>> ((22 : Int32).toInt64 &&& 63)) * (x2 >>> ((22 : Int32).toInt64 &&& 63))) + ((x4 >>> ((22 : Int32).toInt64 &&& 63)) * (x6 >>> ((22 : Int32).toInt64 &&& 63)))) + ((x8 >>> ((22 : Int32).toInt64 &&& 63)) * (x10 >>> ((22 : Int32).toInt64 &&& 63)))) + (((((((((x0 >>> ((22 : Int32).toInt64 &&& 63)) * r22) + (r25 * (x2 >>> ((22 : Int32).toInt64 &&& 63)))) + ((x4 >>> ((22 : Int32).toInt64 &&& 63)) * r28)) + (r31 * (x6 >>> ((22 : Int32).toInt64 &&& 63)))) + ((x8 >>> ((22 : Int32).toInt64 &&& 63)) * r34)) + (r37 * (x10 >>> ((22 : Int32).toInt64 &&& 63)))) + ((((r4 * r7) + (r10 * r13)) + (r16 * r19)) >>> ((22 : Int32).toInt64 &&& 63))) >>> ((22 : Int32).toInt64 &&& 63))) (0 : Int32) hf ls (lv_sub hl [0] rfl)
    · have hf := o_f hf hc47
      refine lv_iconst (v := (1 : Int32)) hx hb d_N_sign_187 rfl ?_
      refine lv_goto (tgt := 192) hx hb d_N_sign_188 (by decide) ?_
      exact t_N_sign_b192 C0 hK hP  (((((x0 >>> ((22 : Int32).toInt64 &&& 63)) * (x2 >>> ((22 : Int32).toInt64 &&& 63))) + ((x4 >>> ((22 : Int32).toInt64 &&& 63)) * (x6 >>> ((22 : Int32).toInt64 &&& 63)))) + ((x8 >>> ((22 : Int32).toInt64 &&& 63)) * (x10 >>> ((22 : Int32).toInt64 &&& 63)))) + (((((((((x0 >>> ((22 : Int32).toInt64 &&& 63)) * r22) + (r25 * (x2 >>> ((22 : Int32).toInt64 &&& 63)))) + ((x4 >>> ((22 : Int32).toInt64 &&& 63)) * r28)) + (r31 * (x6 >>> ((22 : Int32).toInt64 &&& 63)))) + ((x8 >>> ((22 : Int32).toInt64 &&& 63)) * r34)) + (r37 * (x10 >>> ((22 : Int32).toInt64 &&& 63)))) + ((((r4 * r7) + (r10 * r13)) + (r16 * r19)) >>> ((22 : Int32).toInt64 &&& 63))) >>> ((22 : Int32).toInt64 &&& 63))) (1 : Int32) hf ls (lv_sub hl [0] rfl)
set_option maxHeartbeats 4000000 in
set_option maxRecDepth 100000 in
theorem c_N_circle (l : Launch) (dC : Nat → ClassId) (dI : Nat → Nat → Nat) (cI cZ : ClassId) (gN bTh bXs bYs bA bB bC bEd : Nat) (n_xs : Nat → Int32) (n_ys : Nat → Int32) (n_kn : Int32) (n_ct : Int32) (n_rd : Int32) (x1 : Int32) (x2 : Int32) (x3 : Int32) (x4 : Int32) (rv : Int32) (hf : f_N_circle n_xs n_ys x1 x2 x3 x4 = some rv) : Met l y_N_circle w_N_circle ({ frames := 2, cells := 0, slots := 0, locals := 59 } : Room) (PcR dC dI cI cZ [.ref gN, .int x1, .int x2, .int x3, .int x4] [(gN, .inr (4, [.ref bTh, .ref bXs, .ref bYs, .int n_kn, .int n_ct, .ref bA, .ref bB, .ref bC, .int n_rd, .ref bEd])), (bXs, .inl (cI, 20, .inl n_xs)), (bYs, .inl (cI, 20, .inl n_ys))]) (vp_Si (fun r => r = rv)) 0 0 (fun _ => False) := by
  refine Met.ofW (cc := b_N_circle) (maxL := 17) (ret := (some .int)) (by decide) rfl ?_
  intro p e s m args below meth c s₁ B hml hv
  obtain ⟨rfl, hP, hK⟩ := hv
  have C0 : cx p s m _ meth c b_N_circle (some .int) 17 R_N := ⟨B.exec, B.bytes, B.returns, hml, fun w hw => atoms_spec (ws := w_N_circle) B.pre w (List.mem_cons_of_mem _ hw), findClass_of_methodNamed B.named, B.notSynchronized⟩
  obtain ⟨hx, hb, hr, hml, hts, hown, hlocks⟩ := id C0
  have hl := lv_entry ([.ref gN, .int x1, .int x2, .int x3, .int x4]) (n := 17) (Nat.le_of_ble_eq_true rfl)
  rw [lg_entry_eq]
  generalize (lg_sl ([.ref gN, .int x1, .int x2, .int x3, .int x4]) ++ List.replicate (17 - (lg_sl ([.ref gN, .int x1, .int x2, .int x3, .int x4])).length) Slot.unset).toArray = ls at hl ⊢
  have hl : lv_has ls 17 [(0, .ref gN), (1, .int x1), (2, .int x2), (3, .int x3), (4, .int x4)] := hl
  refine lv_aload_n hx hb d_N_circle_0 rfl (lv_at hl 0 rfl) ?_
  refine va_get (D := (dC, dI)) (ci := 4) (v := .ref bXs) (C := R_N) (T := T_N) (N := 10) hx hb hts in_N hown hK.1 hP 0 rfl rfl 1 (by decide) (hts _ bw_358) (fun _ h9 => h9) rfl d_N_circle_1 ?_
  refine lv_iload_n hx hb d_N_circle_4 rfl (lv_at hl 1 rfl) ?_
  obtain ⟨hi1, hf⟩ := o_i hf
  refine va_iald (cA := cI) (n := 20) (f := n_xs) hx hb hK.1 hP 1 0 rfl rfl hi1 d_N_circle_5 ?_
  refine lv_aload_n hx hb d_N_circle_6 rfl (lv_at hl 0 rfl) ?_
  refine va_get (D := (dC, dI)) (ci := 4) (v := .ref bXs) (C := R_N) (T := T_N) (N := 10) hx hb hts in_N hown hK.1 hP 0 rfl rfl 1 (by decide) (hts _ bw_358) (fun _ h9 => h9) rfl d_N_circle_7 ?_
  refine lv_iload hx hb d_N_circle_10 (lv_at hl 4 rfl) ?_
  obtain ⟨hi2, hf⟩ := o_i hf
  refine va_iald (cA := cI) (n := 20) (f := n_xs) hx hb hK.1 hP 1 0 rfl rfl hi2 d_N_circle_12 ?_
  refine lv_isub hx hb d_N_circle_13 ?_
  refine lv_i2l hx hb d_N_circle_14 rfl ?_
  refine lv_lstore (lv' := [(5, .long ((n_xs x1.toNatClampNeg) - (n_xs x4.toNatClampNeg)).toInt64), (0, .ref gN), (1, .int x1), (2, .int x2), (3, .int x3), (4, .int x4)]) hx hb d_N_circle_15 hl (by decide) rfl (fun ls hl => ?_)
  refine lv_aload_n hx hb d_N_circle_17 rfl (lv_at hl 1 rfl) ?_
  refine va_get (D := (dC, dI)) (ci := 4) (v := .ref bYs) (C := R_N) (T := T_N) (N := 10) hx hb hts in_N hown hK.1 hP 0 rfl rfl 2 (by decide) (hts _ bw_359) (fun _ h9 => h9) rfl d_N_circle_18 ?_
  refine lv_iload_n hx hb d_N_circle_21 rfl (lv_at hl 2 rfl) ?_
  obtain ⟨hi3, hf⟩ := o_i hf
  refine va_iald (cA := cI) (n := 20) (f := n_ys) hx hb hK.1 hP 2 0 rfl rfl hi3 d_N_circle_22 ?_
  refine lv_aload_n hx hb d_N_circle_23 rfl (lv_at hl 1 rfl) ?_
  refine va_get (D := (dC, dI)) (ci := 4) (v := .ref bYs) (C := R_N) (T := T_N) (N := 10) hx hb hts in_N hown hK.1 hP 0 rfl rfl 2 (by decide) (hts _ bw_359) (fun _ h9 => h9) rfl d_N_circle_24 ?_
  refine lv_iload hx hb d_N_circle_27 (lv_at hl 5 rfl) ?_
  obtain ⟨hi4, hf⟩ := o_i hf
  refine va_iald (cA := cI) (n := 20) (f := n_ys) hx hb hK.1 hP 2 0 rfl rfl hi4 d_N_circle_29 ?_
  refine lv_isub hx hb d_N_circle_30 ?_
  refine lv_i2l hx hb d_N_circle_31 rfl ?_
  refine lv_lstore (lv' := [(7, .long ((n_ys x1.toNatClampNeg) - (n_ys x4.toNatClampNeg)).toInt64), (5, .long ((n_xs x1.toNatClampNeg) - (n_xs x4.toNatClampNeg)).toInt64), (0, .ref gN), (1, .int x1), (2, .int x2), (3, .int x3), (4, .int x4)]) hx hb d_N_circle_32 hl (by decide) rfl (fun ls hl => ?_)
  refine lv_aload_n hx hb d_N_circle_34 rfl (lv_at hl 2 rfl) ?_
  refine va_get (D := (dC, dI)) (ci := 4) (v := .ref bXs) (C := R_N) (T := T_N) (N := 10) hx hb hts in_N hown hK.1 hP 0 rfl rfl 1 (by decide) (hts _ bw_358) (fun _ h9 => h9) rfl d_N_circle_35 ?_
  refine lv_iload_n hx hb d_N_circle_38 rfl (lv_at hl 4 rfl) ?_
  obtain ⟨hi5, hf⟩ := o_i hf
  refine va_iald (cA := cI) (n := 20) (f := n_xs) hx hb hK.1 hP 1 0 rfl rfl hi5 d_N_circle_39 ?_
  refine lv_aload_n hx hb d_N_circle_40 rfl (lv_at hl 2 rfl) ?_
  refine va_get (D := (dC, dI)) (ci := 4) (v := .ref bXs) (C := R_N) (T := T_N) (N := 10) hx hb hts in_N hown hK.1 hP 0 rfl rfl 1 (by decide) (hts _ bw_358) (fun _ h9 => h9) rfl d_N_circle_41 ?_
  refine lv_iload hx hb d_N_circle_44 (lv_at hl 6 rfl) ?_
  obtain ⟨hi6, hf⟩ := o_i hf
  refine va_iald (cA := cI) (n := 20) (f := n_xs) hx hb hK.1 hP 1 0 rfl rfl hi6 d_N_circle_46 ?_
  refine lv_isub hx hb d_N_circle_47 ?_
  refine lv_i2l hx hb d_N_circle_48 rfl ?_
  refine lv_lstore (lv' := [(9, .long ((n_xs x2.toNatClampNeg) - (n_xs x4.toNatClampNeg)).toInt64), (7, .long ((n_ys x1.toNatClampNeg) - (n_ys x4.toNatClampNeg)).toInt64), (5, .long ((n_xs x1.toNatClampNeg) - (n_xs x4.toNatClampNeg)).toInt64), (0, .ref gN), (1, .int x1), (2, .int x2), (3, .int x3), (4, .int x4)]) hx hb d_N_circle_49 hl (by decide) rfl (fun ls hl => ?_)
  refine lv_aload_n hx hb d_N_circle_51 rfl (lv_at hl 3 rfl) ?_
  refine va_get (D := (dC, dI)) (ci := 4) (v := .ref bYs) (C := R_N) (T := T_N) (N := 10) hx hb hts in_N hown hK.1 hP 0 rfl rfl 2 (by decide) (hts _ bw_359) (fun _ h9 => h9) rfl d_N_circle_52 ?_
  refine lv_iload_n hx hb d_N_circle_55 rfl (lv_at hl 5 rfl) ?_
  obtain ⟨hi7, hf⟩ := o_i hf
  refine va_iald (cA := cI) (n := 20) (f := n_ys) hx hb hK.1 hP 2 0 rfl rfl hi7 d_N_circle_56 ?_
  refine lv_aload_n hx hb d_N_circle_57 rfl (lv_at hl 3 rfl) ?_
  refine va_get (D := (dC, dI)) (ci := 4) (v := .ref bYs) (C := R_N) (T := T_N) (N := 10) hx hb hts in_N hown hK.1 hP 0 rfl rfl 2 (by decide) (hts _ bw_359) (fun _ h9 => h9) rfl d_N_circle_58 ?_
  refine lv_iload hx hb d_N_circle_61 (lv_at hl 7 rfl) ?_
  obtain ⟨hi8, hf⟩ := o_i hf
  refine va_iald (cA := cI) (n := 20) (f := n_ys) hx hb hK.1 hP 2 0 rfl rfl hi8 d_N_circle_63 ?_
  refine lv_isub hx hb d_N_circle_64 ?_
  refine lv_i2l hx hb d_N_circle_65 rfl ?_
  refine lv_lstore (lv' := [(11, .long ((n_ys x2.toNatClampNeg) - (n_ys x4.toNatClampNeg)).toInt64), (9, .long ((n_xs x2.toNatClampNeg) - (n_xs x4.toNatClampNeg)).toInt64), (7, .long ((n_ys x1.toNatClampNeg) - (n_ys x4.toNatClampNeg)).toInt64), (5, .long ((n_xs x1.toNatClampNeg) - (n_xs x4.toNatClampNeg)).toInt64), (0, .ref gN), (1, .int x1), (2, .int x2), (3, .int x3), (4, .int x4)]) hx hb d_N_circle_66 hl (by decide) rfl (fun ls hl => ?_)
  refine lv_aload_n hx hb d_N_circle_68 rfl (lv_at hl 4 rfl) ?_
  refine va_get (D := (dC, dI)) (ci := 4) (v := .ref bXs) (C := R_N) (T := T_N) (N := 10) hx hb hts in_N hown hK.1 hP 0 rfl rfl 1 (by decide) (hts _ bw_358) (fun _ h9 => h9) rfl d_N_circle_69 ?_
  refine lv_iload_n hx hb d_N_circle_72 rfl (lv_at hl 7 rfl) ?_
  obtain ⟨hi9, hf⟩ := o_i hf
  refine va_iald (cA := cI) (n := 20) (f := n_xs) hx hb hK.1 hP 1 0 rfl rfl hi9 d_N_circle_73 ?_
  refine lv_aload_n hx hb d_N_circle_74 rfl (lv_at hl 4 rfl) ?_
  refine va_get (D := (dC, dI)) (ci := 4) (v := .ref bXs) (C := R_N) (T := T_N) (N := 10) hx hb hts in_N hown hK.1 hP 0 rfl rfl 1 (by decide) (hts _ bw_358) (fun _ h9 => h9) rfl d_N_circle_75 ?_
  refine lv_iload hx hb d_N_circle_78 (lv_at hl 8 rfl) ?_
  obtain ⟨hi10, hf⟩ := o_i hf
  refine va_iald (cA := cI) (n := 20) (f := n_xs) hx hb hK.1 hP 1 0 rfl rfl hi10 d_N_circle_80 ?_
  refine lv_isub hx hb d_N_circle_81 ?_
  refine lv_i2l hx hb d_N_circle_82 rfl ?_
  refine lv_lstore (lv' := [(13, .long ((n_xs x3.toNatClampNeg) - (n_xs x4.toNatClampNeg)).toInt64), (11, .long ((n_ys x2.toNatClampNeg) - (n_ys x4.toNatClampNeg)).toInt64), (9, .long ((n_xs x2.toNatClampNeg) - (n_xs x4.toNatClampNeg)).toInt64), (7, .long ((n_ys x1.toNatClampNeg) - (n_ys x4.toNatClampNeg)).toInt64), (5, .long ((n_xs x1.toNatClampNeg) - (n_xs x4.toNatClampNeg)).toInt64), (0, .ref gN), (1, .int x1), (2, .int x2), (3, .int x3), (4, .int x4)]) hx hb d_N_circle_83 hl (by decide) rfl (fun ls hl => ?_)
  refine lv_aload_n hx hb d_N_circle_85 rfl (lv_at hl 5 rfl) ?_
  refine va_get (D := (dC, dI)) (ci := 4) (v := .ref bYs) (C := R_N) (T := T_N) (N := 10) hx hb hts in_N hown hK.1 hP 0 rfl rfl 2 (by decide) (hts _ bw_359) (fun _ h9 => h9) rfl d_N_circle_86 ?_
  refine lv_iload_n hx hb d_N_circle_89 rfl (lv_at hl 8 rfl) ?_
  obtain ⟨hi11, hf⟩ := o_i hf
  refine va_iald (cA := cI) (n := 20) (f := n_ys) hx hb hK.1 hP 2 0 rfl rfl hi11 d_N_circle_90 ?_
  refine lv_aload_n hx hb d_N_circle_91 rfl (lv_at hl 5 rfl) ?_
  refine va_get (D := (dC, dI)) (ci := 4) (v := .ref bYs) (C := R_N) (T := T_N) (N := 10) hx hb hts in_N hown hK.1 hP 0 rfl rfl 2 (by decide) (hts _ bw_359) (fun _ h9 => h9) rfl d_N_circle_92 ?_
  refine lv_iload hx hb d_N_circle_95 (lv_at hl 9 rfl) ?_
  obtain ⟨hi12, hf⟩ := o_i hf
  refine va_iald (cA := cI) (n := 20) (f := n_ys) hx hb hK.1 hP 2 0 rfl rfl hi12 d_N_circle_97 ?_
  refine lv_isub hx hb d_N_circle_98 ?_
  refine lv_i2l hx hb d_N_circle_99 rfl ?_
  refine lv_lstore (lv' := [(15, .long ((n_ys x3.toNatClampNeg) - (n_ys x4.toNatClampNeg)).toInt64), (13, .long ((n_xs x3.toNatClampNeg) - (n_xs x4.toNatClampNeg)).toInt64), (11, .long ((n_ys x2.toNatClampNeg) - (n_ys x4.toNatClampNeg)).toInt64), (9, .long ((n_xs x2.toNatClampNeg) - (n_xs x4.toNatClampNeg)).toInt64), (7, .long ((n_ys x1.toNatClampNeg) - (n_ys x4.toNatClampNeg)).toInt64), (5, .long ((n_xs x1.toNatClampNeg) - (n_xs x4.toNatClampNeg)).toInt64), (0, .ref gN), (1, .int x1), (2, .int x2), (3, .int x3), (4, .int x4)]) hx hb d_N_circle_100 hl (by decide) rfl (fun ls hl => ?_)
  refine lv_lload hx hb d_N_circle_102 (lv_at hl 5 rfl) ?_
  refine lv_lload hx hb d_N_circle_104 (lv_at hl 5 rfl) ?_
  refine lv_lmul hx hb d_N_circle_106 ?_
  refine lv_lload hx hb d_N_circle_107 (lv_at hl 4 rfl) ?_
  refine lv_lload hx hb d_N_circle_109 (lv_at hl 4 rfl) ?_
  refine lv_lmul hx hb d_N_circle_111 ?_
  refine lv_ladd hx hb d_N_circle_112 ?_
  refine lv_lload hx hb d_N_circle_113 (lv_at hl 3 rfl) ?_
  refine lv_lload hx hb d_N_circle_115 (lv_at hl 0 rfl) ?_
  refine lv_lmul hx hb d_N_circle_117 ?_
  refine lv_lload hx hb d_N_circle_118 (lv_at hl 2 rfl) ?_
  refine lv_lload hx hb d_N_circle_120 (lv_at hl 1 rfl) ?_
  refine lv_lmul hx hb d_N_circle_122 ?_
  refine lv_lsub hx hb d_N_circle_123 ?_
  refine lv_lload hx hb d_N_circle_124 (lv_at hl 3 rfl) ?_
  refine lv_lload hx hb d_N_circle_126 (lv_at hl 3 rfl) ?_
  refine lv_lmul hx hb d_N_circle_128 ?_
  refine lv_lload hx hb d_N_circle_129 (lv_at hl 2 rfl) ?_
  refine lv_lload hx hb d_N_circle_131 (lv_at hl 2 rfl) ?_
  refine lv_lmul hx hb d_N_circle_133 ?_
  refine lv_ladd hx hb d_N_circle_134 ?_
  refine lv_lload hx hb d_N_circle_135 (lv_at hl 1 rfl) ?_
  refine lv_lload hx hb d_N_circle_137 (lv_at hl 4 rfl) ?_
  refine lv_lmul hx hb d_N_circle_139 ?_
  refine lv_lload hx hb d_N_circle_140 (lv_at hl 0 rfl) ?_
  refine lv_lload hx hb d_N_circle_142 (lv_at hl 5 rfl) ?_
  refine lv_lmul hx hb d_N_circle_144 ?_
  refine lv_lsub hx hb d_N_circle_145 ?_
  refine lv_lload hx hb d_N_circle_146 (lv_at hl 1 rfl) ?_
  refine lv_lload hx hb d_N_circle_148 (lv_at hl 1 rfl) ?_
  refine lv_lmul hx hb d_N_circle_150 ?_
  refine lv_lload hx hb d_N_circle_151 (lv_at hl 0 rfl) ?_
  refine lv_lload hx hb d_N_circle_153 (lv_at hl 0 rfl) ?_
  refine lv_lmul hx hb d_N_circle_155 ?_
  refine lv_ladd hx hb d_N_circle_156 ?_
  refine lv_lload hx hb d_N_circle_157 (lv_at hl 5 rfl) ?_
  refine lv_lload hx hb d_N_circle_159 (lv_at hl 2 rfl) ?_
  refine lv_lmul hx hb d_N_circle_161 ?_
  refine lv_lload hx hb d_N_circle_162 (lv_at hl 4 rfl) ?_
  refine lv_lload hx hb d_N_circle_164 (lv_at hl 3 rfl) ?_
  refine lv_lmul hx hb d_N_circle_166 ?_
  refine lv_lsub hx hb d_N_circle_167 ?_
  obtain ⟨r13, hv15, hf⟩ := o_b hf
  refine rc_i (va_runS (As := [.long ((((n_xs x1.toNatClampNeg) - (n_xs x4.toNatClampNeg)).toInt64 * ((n_xs x1.toNatClampNeg) - (n_xs x4.toNatClampNeg)).toInt64) + (((n_ys x1.toNatClampNeg) - (n_ys x4.toNatClampNeg)).toInt64 * ((n_ys x1.toNatClampNeg) - (n_ys x4.toNatClampNeg)).toInt64)), .long ((((n_xs x2.toNatClampNeg) - (n_xs x4.toNatClampNeg)).toInt64 * ((n_ys x3.toNatClampNeg) - (n_ys x4.toNatClampNeg)).toInt64) - (((n_ys x2.toNatClampNeg) - (n_ys x4.toNatClampNeg)).toInt64 * ((n_xs x3.toNatClampNeg) - (n_xs x4.toNatClampNeg)).toInt64)), .long ((((n_xs x2.toNatClampNeg) - (n_xs x4.toNatClampNeg)).toInt64 * ((n_xs x2.toNatClampNeg) - (n_xs x4.toNatClampNeg)).toInt64) + (((n_ys x2.toNatClampNeg) - (n_ys x4.toNatClampNeg)).toInt64 * ((n_ys x2.toNatClampNeg) - (n_ys x4.toNatClampNeg)).toInt64)), .long ((((n_xs x3.toNatClampNeg) - (n_xs x4.toNatClampNeg)).toInt64 * ((n_ys x1.toNatClampNeg) - (n_ys x4.toNatClampNeg)).toInt64) - (((n_ys x3.toNatClampNeg) - (n_ys x4.toNatClampNeg)).toInt64 * ((n_xs x1.toNatClampNeg) - (n_xs x4.toNatClampNeg)).toInt64)), .long ((((n_xs x3.toNatClampNeg) - (n_xs x4.toNatClampNeg)).toInt64 * ((n_xs x3.toNatClampNeg) - (n_xs x4.toNatClampNeg)).toInt64) + (((n_ys x3.toNatClampNeg) - (n_ys x4.toNatClampNeg)).toInt64 * ((n_ys x3.toNatClampNeg) - (n_ys x4.toNatClampNeg)).toInt64)), .long ((((n_xs x1.toNatClampNeg) - (n_xs x4.toNatClampNeg)).toInt64 * ((n_ys x2.toNatClampNeg) - (n_ys x4.toNatClampNeg)).toInt64) - (((n_ys x1.toNatClampNeg) - (n_ys x4.toNatClampNeg)).toInt64 * ((n_xs x2.toNatClampNeg) - (n_xs x4.toNatClampNeg)).toInt64))]) (rest := []) ⟨hx, hb, hml, hown, hts⟩ (c_N_sign l dC dI cI cZ ((((n_xs x1.toNatClampNeg) - (n_xs x4.toNatClampNeg)).toInt64 * ((n_xs x1.toNatClampNeg) - (n_xs x4.toNatClampNeg)).toInt64) + (((n_ys x1.toNatClampNeg) - (n_ys x4.toNatClampNeg)).toInt64 * ((n_ys x1.toNatClampNeg) - (n_ys x4.toNatClampNeg)).toInt64)) ((((n_xs x2.toNatClampNeg) - (n_xs x4.toNatClampNeg)).toInt64 * ((n_ys x3.toNatClampNeg) - (n_ys x4.toNatClampNeg)).toInt64) - (((n_ys x2.toNatClampNeg) - (n_ys x4.toNatClampNeg)).toInt64 * ((n_xs x3.toNatClampNeg) - (n_xs x4.toNatClampNeg)).toInt64)) ((((n_xs x2.toNatClampNeg) - (n_xs x4.toNatClampNeg)).toInt64 * ((n_xs x2.toNatClampNeg) - (n_xs x4.toNatClampNeg)).toInt64) + (((n_ys x2.toNatClampNeg) - (n_ys x4.toNatClampNeg)).toInt64 * ((n_ys x2.toNatClampNeg) - (n_ys x4.toNatClampNeg)).toInt64)) ((((n_xs x3.toNatClampNeg) - (n_xs x4.toNatClampNeg)).toInt64 * ((n_ys x1.toNatClampNeg) - (n_ys x4.toNatClampNeg)).toInt64) - (((n_ys x3.toNatClampNeg) - (n_ys x4.toNatClampNeg)).toInt64 * ((n_xs x1.toNatClampNeg) - (n_xs x4.toNatClampNeg)).toInt64)) ((((n_xs x3.toNatClampNeg) - (n_xs x4.toNatClampNeg)).toInt64 * ((n_xs x3.toNatClampNeg) - (n_xs x4.toNatClampNeg)).toInt64) + (((n_ys x3.toNatClampNeg) - (n_ys x4.toNatClampNeg)).toInt64 * ((n_ys x3.toNatClampNeg) - (n_ys x4.toNatClampNeg)).toInt64)) ((((n_xs x1.toNatClampNeg) - (n_xs x4.toNatClampNeg)).toInt64 * ((n_ys x2.toNatClampNeg) - (n_ys x4.toNatClampNeg)).toInt64) - (((n_ys x1.toNatClampNeg) - (n_ys x4.toNatClampNeg)).toInt64 * ((n_xs x2.toNatClampNeg) - (n_xs x4.toNatClampNeg)).toInt64)) r13 hv15) (va_cwS 6 hts (gd_S bw_450 bw_451 bw_5 bw_452) rfl rfl rfl hd_N_sign ⟨Nat.le_of_ble_eq_true rfl, Nat.le_of_ble_eq_true rfl⟩) (ps_r (wc := []) hK hP [] rfl) rfl rfl hl.1 rfl (lv_room (Nat.le_of_ble_eq_true rfl)) d_N_circle_168 ⟨Nat.zero_le _, Nat.zero_le _⟩) ?_
  cases hf
  exact rr_i hx hb hr hlocks d_N_circle_171
set_option maxHeartbeats 4000000 in
set_option maxRecDepth 100000 in
theorem t_N_isTriangle_L61 {p : Program} {l : Launch} {e : Env} {s : State} {m : MethodId} {args : Array Value} {below : List Frame} {meth : Method} {c : Code} {dC : Nat → ClassId} {dI : Nat → Nat → Nat} {cI cZ : ClassId} {gN bTh bXs bYs bA bB bC bEd : Nat} {n_th : Nat → Int32} {n_xs : Nat → Int32} {n_ys : Nat → Int32} {n_kn : Int32} {n_ct : Int32} {n_rd : Int32} {rv : Int32} (C0 : cx p s m args meth c b_N_isTriangle (some .boolean) 6 R_N) (hK : gK dC dI cI cZ s) (hP : va_P (dC, dI) vwCl [(gN, .inr (4, [.ref bTh, .ref bXs, .ref bYs, .int n_kn, .int n_ct, .ref bA, .ref bB, .ref bC, .int n_rd, .ref bEd])), (bTh, .inl (cZ, 20, .inl n_th)), (bXs, .inl (cI, 20, .inl n_xs)), (bYs, .inl (cI, 20, .inl n_ys))] s.heap) : ∀ (n : Nat) (x1 : Int32) (x2 : Int32) (x3 : Int32) (x4 : Int32), f_N_isTriangle_L61 n_th n_xs n_ys n x1 x2 x3 x4 = some rv → ∀ (ls : Array Slot), lv_has ls 6 [(0, .ref gN), (1, .int x1), (2, .int x2), (3, .int x3), (4, .int x4)] → W p l e (headSpec w_N_isTriangle ({ frames := 3, cells := 0, slots := 0, locals := 95 } : Room)).room s m args below meth c s.heap [] 0 0 (MQ below (vp_Si (fun r => r = rv)) args s 0 0 (fun _ => False)) (F0 m 61 ls []) := by
  obtain ⟨hx, hb, hr, hml, hts, hown, hlocks⟩ := id C0
  intro n
  induction n with
  | zero =>
    intro x1 x2 x3 x4 hf
    exact (o_n hf).elim
  | succ n ih =>
    intro x1 x2 x3 x4 hf ls hl
    refine lv_iload hx hb d_N_isTriangle_61 (lv_at hl 4 rfl) ?_
    refine lv_bipush (v := (20 : Int32)) hx hb d_N_isTriangle_63 rfl ?_
    refine lv_icmp_ge (tgt := 146) hx hb d_N_isTriangle_65 (by decide) (fun hc1 => ?_) (fun hc1 => ?_)
    · have hf := o_t hf hc1
      refine lv_iconst (v := (1 : Int32)) hx hb d_N_isTriangle_146 rfl ?_
      cases hf
      exact rr_z hx hb hr hlocks rfl d_N_isTriangle_147
    · have hf := o_f hf hc1
      refine lv_aload_n hx hb d_N_isTriangle_68 rfl (lv_at hl 0 rfl) ?_
      refine va_get (D := (dC, dI)) (ci := 4) (v := .ref bTh) (C := R_N) (T := T_N) (N := 10) hx hb hts in_N hown hK.1 hP 0 rfl rfl 0 (by decide) (hts _ bw_357) (fun _ h9 => h9) rfl d_N_isTriangle_69 ?_
      refine lv_iload hx hb d_N_isTriangle_72 (lv_at hl 4 rfl) ?_
      obtain ⟨hi2, hf⟩ := o_i hf
      refine va_zald (cA := cZ) (n := 20) (f := n_th) hx hb hK.1 hP 1 1 rfl rfl hi2 d_N_isTriangle_74 ?_
      refine lv_if_eq (tgt := 140) hx hb d_N_isTriangle_75 (by decide) (fun hc3 => ?_) (fun hc3 => ?_)
      · have hf := o_t hf hc3
        refine lv_iinc (v := (x4 + 1)) (lv' := [(4, .int (x4 + 1)), (0, .ref gN), (1, .int x1), (2, .int x2), (3, .int x3)]) hx hb d_N_isTriangle_140 hl (k := 4) rfl rfl (by decide) rfl (fun ls hl => ?_)
        refine lv_goto (tgt := 61) hx hb d_N_isTriangle_143 (by decide) ?_
        exact ih x1 x2 x3 (x4 + 1) hf ls (lv_sub hl [1, 2, 3, 4, 0] rfl)
      · have hf := o_f hf hc3
        refine lv_iload hx hb d_N_isTriangle_78 (lv_at hl 4 rfl) ?_
        refine lv_iload_n hx hb d_N_isTriangle_80 rfl (lv_at hl 1 rfl) ?_
        refine lv_icmp_eq (tgt := 140) hx hb d_N_isTriangle_81 (by decide) (fun hc4 => ?_) (fun hc4 => ?_)
        · have hf := o_t hf hc4
          refine lv_iinc (v := (x4 + 1)) (lv' := [(4, .int (x4 + 1)), (0, .ref gN), (1, .int x1), (2, .int x2), (3, .int x3)]) hx hb d_N_isTriangle_140 hl (k := 4) rfl rfl (by decide) rfl (fun ls hl => ?_)
          refine lv_goto (tgt := 61) hx hb d_N_isTriangle_143 (by decide) ?_
          exact ih x1 x2 x3 (x4 + 1) hf ls (lv_sub hl [1, 2, 3, 4, 0] rfl)
        · have hf := o_f hf hc4
          refine lv_iload hx hb d_N_isTriangle_84 (lv_at hl 4 rfl) ?_
          refine lv_iload_n hx hb d_N_isTriangle_86 rfl (lv_at hl 2 rfl) ?_
          refine lv_icmp_eq (tgt := 140) hx hb d_N_isTriangle_87 (by decide) (fun hc5 => ?_) (fun hc5 => ?_)
          · have hf := o_t hf hc5
            refine lv_iinc (v := (x4 + 1)) (lv' := [(4, .int (x4 + 1)), (0, .ref gN), (1, .int x1), (2, .int x2), (3, .int x3)]) hx hb d_N_isTriangle_140 hl (k := 4) rfl rfl (by decide) rfl (fun ls hl => ?_)
            refine lv_goto (tgt := 61) hx hb d_N_isTriangle_143 (by decide) ?_
            exact ih x1 x2 x3 (x4 + 1) hf ls (lv_sub hl [1, 2, 3, 4, 0] rfl)
          · have hf := o_f hf hc5
            refine lv_iload hx hb d_N_isTriangle_90 (lv_at hl 4 rfl) ?_
            refine lv_iload_n hx hb d_N_isTriangle_92 rfl (lv_at hl 3 rfl) ?_
            refine lv_icmp_eq (tgt := 140) hx hb d_N_isTriangle_93 (by decide) (fun hc6 => ?_) (fun hc6 => ?_)
            · have hf := o_t hf hc6
              refine lv_iinc (v := (x4 + 1)) (lv' := [(4, .int (x4 + 1)), (0, .ref gN), (1, .int x1), (2, .int x2), (3, .int x3)]) hx hb d_N_isTriangle_140 hl (k := 4) rfl rfl (by decide) rfl (fun ls hl => ?_)
              refine lv_goto (tgt := 61) hx hb d_N_isTriangle_143 (by decide) ?_
              exact ih x1 x2 x3 (x4 + 1) hf ls (lv_sub hl [1, 2, 3, 4, 0] rfl)
            · have hf := o_f hf hc6
              refine lv_aload_n hx hb d_N_isTriangle_96 rfl (lv_at hl 0 rfl) ?_
              refine lv_iload_n hx hb d_N_isTriangle_97 rfl (lv_at hl 1 rfl) ?_
              refine lv_iload_n hx hb d_N_isTriangle_98 rfl (lv_at hl 2 rfl) ?_
              refine lv_iload_n hx hb d_N_isTriangle_99 rfl (lv_at hl 3 rfl) ?_
              refine lv_iload hx hb d_N_isTriangle_100 (lv_at hl 4 rfl) ?_
              obtain ⟨r7, hv9, hf⟩ := o_b hf
              refine rc_i (va_runV (As := [.int x1, .int x2, .int x3, .int x4]) (rest := []) ⟨hx, hb, hml, hown, hts⟩ (c_N_circle l dC dI cI cZ gN bTh bXs bYs bA bB bC bEd n_xs n_ys n_kn n_ct n_rd x1 x2 x3 x4 r7 hv9) (cwV 4 hts (gd_V bw_446 bw_448 bp_20 bw_5 bw_449) rfl rfl rfl ⟨rfl, hd_N_circle⟩ ⟨Nat.le_of_ble_eq_true rfl, Nat.le_of_ble_eq_true rfl⟩) (pv_r (wc := [(gN, .inr (4, [.ref bTh, .ref bXs, .ref bYs, .int n_kn, .int n_ct, .ref bA, .ref bB, .ref bC, .int n_rd, .ref bEd])), (bXs, .inl (cI, 20, .inl n_xs)), (bYs, .inl (cI, 20, .inl n_ys))]) hK hP [0, 2, 3] rfl 0 (ci := 4) rfl rfl) rfl rfl hl.1 rfl (lv_room (Nat.le_of_ble_eq_true rfl)) d_N_isTriangle_102 ⟨Nat.zero_le _, Nat.zero_le _⟩) ?_
              refine lv_istore (lv' := [(5, .int r7), (0, .ref gN), (1, .int x1), (2, .int x2), (3, .int x3), (4, .int x4)]) hx hb d_N_isTriangle_105 hl (by decide) rfl (fun ls hl => ?_)
              refine lv_iload hx hb d_N_isTriangle_107 (lv_at hl 0 rfl) ?_
              refine lv_if_gt (tgt := 138) hx hb d_N_isTriangle_109 (by decide) (fun hc10 => ?_) (fun hc10 => ?_)
              · have hf := o_t hf hc10
                refine lv_iconst (v := (0 : Int32)) hx hb d_N_isTriangle_138 rfl ?_
                cases hf
                exact rr_z hx hb hr hlocks rfl d_N_isTriangle_139
              · have hf := o_f hf hc10
                refine lv_iload hx hb d_N_isTriangle_112 (lv_at hl 0 rfl) ?_
                refine lv_if_ne (tgt := 140) hx hb d_N_isTriangle_114 (by decide) (fun hc11 => ?_) (fun hc11 => ?_)
                · have hf := o_f hf hc11
                  refine lv_iinc (v := (x4 + 1)) (lv' := [(4, .int (x4 + 1)), (5, .int r7), (0, .ref gN), (1, .int x1), (2, .int x2), (3, .int x3)]) hx hb d_N_isTriangle_140 hl (k := 5) rfl rfl (by decide) rfl (fun ls hl => ?_)
                  refine lv_goto (tgt := 61) hx hb d_N_isTriangle_143 (by decide) ?_
                  exact ih x1 x2 x3 (x4 + 1) hf ls (lv_sub hl [2, 3, 4, 5, 0] rfl)
                · have hf := o_t hf hc11
                  refine lv_aload_n hx hb d_N_isTriangle_117 rfl (lv_at hl 1 rfl) ?_
                  refine lv_iload hx hb d_N_isTriangle_118 (lv_at hl 5 rfl) ?_
                  refine lv_iload_n hx hb d_N_isTriangle_120 rfl (lv_at hl 2 rfl) ?_
                  obtain ⟨r12, hv14, hf⟩ := o_b hf
                  refine rc_i (va_runV (As := [.int x4, .int x1]) (rest := []) ⟨hx, hb, hml, hown, hts⟩ (c_N_earlier l dC dI cI cZ gN bTh bXs bYs bA bB bC bEd n_xs n_ys n_kn n_ct n_rd x4 x1 r12 hv14) (cwV 2 hts (gd_V bw_442 bw_444 bp_19 bw_5 bw_445) rfl rfl rfl ⟨rfl, hd_N_earlier⟩ ⟨Nat.le_of_ble_eq_true rfl, Nat.le_of_ble_eq_true rfl⟩) (pv_r (wc := [(gN, .inr (4, [.ref bTh, .ref bXs, .ref bYs, .int n_kn, .int n_ct, .ref bA, .ref bB, .ref bC, .int n_rd, .ref bEd])), (bXs, .inl (cI, 20, .inl n_xs)), (bYs, .inl (cI, 20, .inl n_ys))]) hK hP [0, 2, 3] rfl 0 (ci := 4) rfl rfl) rfl rfl hl.1 rfl (lv_room (Nat.le_of_ble_eq_true rfl)) d_N_isTriangle_121 ⟨Nat.zero_le _, Nat.zero_le _⟩) ?_
                  refine lv_if_ne (tgt := 138) hx hb d_N_isTriangle_124 (by decide) (fun hc15 => ?_) (fun hc15 => ?_)
                  · have hf := o_f hf hc15
                    refine lv_iconst (v := (0 : Int32)) hx hb d_N_isTriangle_138 rfl ?_
                    cases hf
                    exact rr_z hx hb hr hlocks rfl d_N_isTriangle_139
                  · have hf := o_t hf hc15
                    refine lv_aload_n hx hb d_N_isTriangle_127 rfl (lv_at hl 1 rfl) ?_
                    refine lv_iload_n hx hb d_N_isTriangle_128 rfl (lv_at hl 3 rfl) ?_
                    refine lv_iload_n hx hb d_N_isTriangle_129 rfl (lv_at hl 4 rfl) ?_
                    refine lv_iload hx hb d_N_isTriangle_130 (lv_at hl 5 rfl) ?_
                    obtain ⟨r16, hv18, hf⟩ := o_b hf
                    refine rc_i (va_runV (As := [.int x2, .int x3, .int x4]) (rest := []) ⟨hx, hb, hml, hown, hts⟩ (c_N_side l dC dI cI cZ gN bTh bXs bYs bA bB bC bEd n_xs n_ys n_kn n_ct n_rd x2 x3 x4 r16 hv18) (cwV 3 hts (gd_V bw_434 bw_436 bp_17 bw_5 bw_437) rfl rfl rfl ⟨rfl, hd_N_side⟩ ⟨Nat.le_of_ble_eq_true rfl, Nat.le_of_ble_eq_true rfl⟩) (pv_r (wc := [(gN, .inr (4, [.ref bTh, .ref bXs, .ref bYs, .int n_kn, .int n_ct, .ref bA, .ref bB, .ref bC, .int n_rd, .ref bEd])), (bXs, .inl (cI, 20, .inl n_xs)), (bYs, .inl (cI, 20, .inl n_ys))]) hK hP [0, 2, 3] rfl 0 (ci := 4) rfl rfl) rfl rfl hl.1 rfl (lv_room (Nat.le_of_ble_eq_true rfl)) d_N_isTriangle_132 ⟨Nat.zero_le _, Nat.zero_le _⟩) ?_
                    refine lv_if_ge (tgt := 140) hx hb d_N_isTriangle_135 (by decide) (fun hc19 => ?_) (fun hc19 => ?_)
                    · have hf := o_t hf hc19
                      refine lv_iinc (v := (x4 + 1)) (lv' := [(4, .int (x4 + 1)), (5, .int r7), (0, .ref gN), (1, .int x1), (2, .int x2), (3, .int x3)]) hx hb d_N_isTriangle_140 hl (k := 5) rfl rfl (by decide) rfl (fun ls hl => ?_)
                      refine lv_goto (tgt := 61) hx hb d_N_isTriangle_143 (by decide) ?_
                      exact ih x1 x2 x3 (x4 + 1) hf ls (lv_sub hl [2, 3, 4, 5, 0] rfl)
                    · have hf := o_f hf hc19
                      refine lv_iconst (v := (0 : Int32)) hx hb d_N_isTriangle_138 rfl ?_
                      cases hf
                      exact rr_z hx hb hr hlocks rfl d_N_isTriangle_139
set_option maxHeartbeats 4000000 in
set_option maxRecDepth 100000 in
theorem c_N_isTriangle (l : Launch) (dC : Nat → ClassId) (dI : Nat → Nat → Nat) (cI cZ : ClassId) (gN bTh bXs bYs bA bB bC bEd : Nat) (n_th : Nat → Int32) (n_xs : Nat → Int32) (n_ys : Nat → Int32) (n_kn : Int32) (n_ct : Int32) (n_rd : Int32) (x1 : Int32) (x2 : Int32) (x3 : Int32) (rv : Int32) (hf : f_N_isTriangle n_th n_xs n_ys x1 x2 x3 = some rv) : Met l y_N_isTriangle w_N_isTriangle ({ frames := 3, cells := 0, slots := 0, locals := 95 } : Room) (PcR dC dI cI cZ [.ref gN, .int x1, .int x2, .int x3] [(gN, .inr (4, [.ref bTh, .ref bXs, .ref bYs, .int n_kn, .int n_ct, .ref bA, .ref bB, .ref bC, .int n_rd, .ref bEd])), (bTh, .inl (cZ, 20, .inl n_th)), (bXs, .inl (cI, 20, .inl n_xs)), (bYs, .inl (cI, 20, .inl n_ys))]) (vp_Si (fun r => r = rv)) 0 0 (fun _ => False) := by
  refine Met.ofW (cc := b_N_isTriangle) (maxL := 6) (ret := (some .boolean)) (by decide) rfl ?_
  intro p e s m args below meth c s₁ B hml hv
  obtain ⟨rfl, hP, hK⟩ := hv
  have C0 : cx p s m _ meth c b_N_isTriangle (some .boolean) 6 R_N := ⟨B.exec, B.bytes, B.returns, hml, fun w hw => atoms_spec (ws := w_N_isTriangle) B.pre w (List.mem_cons_of_mem _ hw), findClass_of_methodNamed B.named, B.notSynchronized⟩
  obtain ⟨hx, hb, hr, hml, hts, hown, hlocks⟩ := id C0
  have hl := lv_entry ([.ref gN, .int x1, .int x2, .int x3]) (n := 6) (Nat.le_of_ble_eq_true rfl)
  rw [lg_entry_eq]
  generalize (lg_sl ([.ref gN, .int x1, .int x2, .int x3]) ++ List.replicate (6 - (lg_sl ([.ref gN, .int x1, .int x2, .int x3])).length) Slot.unset).toArray = ls at hl ⊢
  have hl : lv_has ls 6 [(0, .ref gN), (1, .int x1), (2, .int x2), (3, .int x3)] := hl
  refine lv_aload_n hx hb d_N_isTriangle_0 rfl (lv_at hl 0 rfl) ?_
  refine va_get (D := (dC, dI)) (ci := 4) (v := .ref bTh) (C := R_N) (T := T_N) (N := 10) hx hb hts in_N hown hK.1 hP 0 rfl rfl 0 (by decide) (hts _ bw_357) (fun _ h9 => h9) rfl d_N_isTriangle_1 ?_
  refine lv_iload_n hx hb d_N_isTriangle_4 rfl (lv_at hl 1 rfl) ?_
  obtain ⟨hi20, hf⟩ := o_i hf
  refine va_zald (cA := cZ) (n := 20) (f := n_th) hx hb hK.1 hP 1 1 rfl rfl hi20 d_N_isTriangle_5 ?_
  refine lv_if_eq (tgt := 56) hx hb d_N_isTriangle_6 (by decide) (fun hc21 => ?_) (fun hc21 => ?_)
  · have hf := o_t hf hc21
    refine lv_iconst (v := (0 : Int32)) hx hb d_N_isTriangle_56 rfl ?_
    cases hf
    exact rr_z hx hb hr hlocks rfl d_N_isTriangle_57
  · have hf := o_f hf hc21
    refine lv_aload_n hx hb d_N_isTriangle_9 rfl (lv_at hl 0 rfl) ?_
    refine va_get (D := (dC, dI)) (ci := 4) (v := .ref bTh) (C := R_N) (T := T_N) (N := 10) hx hb hts in_N hown hK.1 hP 0 rfl rfl 0 (by decide) (hts _ bw_357) (fun _ h9 => h9) rfl d_N_isTriangle_10 ?_
    refine lv_iload_n hx hb d_N_isTriangle_13 rfl (lv_at hl 2 rfl) ?_
    obtain ⟨hi22, hf⟩ := o_i hf
    refine va_zald (cA := cZ) (n := 20) (f := n_th) hx hb hK.1 hP 1 1 rfl rfl hi22 d_N_isTriangle_14 ?_
    refine lv_if_eq (tgt := 56) hx hb d_N_isTriangle_15 (by decide) (fun hc23 => ?_) (fun hc23 => ?_)
    · have hf := o_t hf hc23
      refine lv_iconst (v := (0 : Int32)) hx hb d_N_isTriangle_56 rfl ?_
      cases hf
      exact rr_z hx hb hr hlocks rfl d_N_isTriangle_57
    · have hf := o_f hf hc23
      refine lv_aload_n hx hb d_N_isTriangle_18 rfl (lv_at hl 0 rfl) ?_
      refine va_get (D := (dC, dI)) (ci := 4) (v := .ref bTh) (C := R_N) (T := T_N) (N := 10) hx hb hts in_N hown hK.1 hP 0 rfl rfl 0 (by decide) (hts _ bw_357) (fun _ h9 => h9) rfl d_N_isTriangle_19 ?_
      refine lv_iload_n hx hb d_N_isTriangle_22 rfl (lv_at hl 3 rfl) ?_
      obtain ⟨hi24, hf⟩ := o_i hf
      refine va_zald (cA := cZ) (n := 20) (f := n_th) hx hb hK.1 hP 1 1 rfl rfl hi24 d_N_isTriangle_23 ?_
      refine lv_if_eq (tgt := 56) hx hb d_N_isTriangle_24 (by decide) (fun hc25 => ?_) (fun hc25 => ?_)
      · have hf := o_t hf hc25
        refine lv_iconst (v := (0 : Int32)) hx hb d_N_isTriangle_56 rfl ?_
        cases hf
        exact rr_z hx hb hr hlocks rfl d_N_isTriangle_57
      · have hf := o_f hf hc25
        refine lv_aload_n hx hb d_N_isTriangle_27 rfl (lv_at hl 0 rfl) ?_
        refine lv_iload_n hx hb d_N_isTriangle_28 rfl (lv_at hl 1 rfl) ?_
        refine lv_iload_n hx hb d_N_isTriangle_29 rfl (lv_at hl 2 rfl) ?_
        refine lv_iload_n hx hb d_N_isTriangle_30 rfl (lv_at hl 3 rfl) ?_
        obtain ⟨r26, hv28, hf⟩ := o_b hf
        refine rc_i (va_runV (As := [.int x1, .int x2, .int x3]) (rest := []) ⟨hx, hb, hml, hown, hts⟩ (c_N_side l dC dI cI cZ gN bTh bXs bYs bA bB bC bEd n_xs n_ys n_kn n_ct n_rd x1 x2 x3 r26 hv28) (cwV 3 hts (gd_V bw_434 bw_436 bp_17 bw_5 bw_437) rfl rfl rfl ⟨rfl, hd_N_side⟩ ⟨Nat.le_of_ble_eq_true rfl, Nat.le_of_ble_eq_true rfl⟩) (pv_r (wc := [(gN, .inr (4, [.ref bTh, .ref bXs, .ref bYs, .int n_kn, .int n_ct, .ref bA, .ref bB, .ref bC, .int n_rd, .ref bEd])), (bXs, .inl (cI, 20, .inl n_xs)), (bYs, .inl (cI, 20, .inl n_ys))]) hK hP [0, 2, 3] rfl 0 (ci := 4) rfl rfl) rfl rfl hl.1 rfl (lv_room (Nat.le_of_ble_eq_true rfl)) d_N_isTriangle_31 ⟨Nat.zero_le _, Nat.zero_le _⟩) ?_
        refine lv_iconst (v := (1 : Int32)) hx hb d_N_isTriangle_34 rfl ?_
        refine lv_icmp_ne (tgt := 56) hx hb d_N_isTriangle_35 (by decide) (fun hc29 => ?_) (fun hc29 => ?_)
        · have hf := o_f hf hc29
          refine lv_iconst (v := (0 : Int32)) hx hb d_N_isTriangle_56 rfl ?_
          cases hf
          exact rr_z hx hb hr hlocks rfl d_N_isTriangle_57
        · have hf := o_t hf hc29
          refine lv_aload_n hx hb d_N_isTriangle_38 rfl (lv_at hl 0 rfl) ?_
          refine lv_iload_n hx hb d_N_isTriangle_39 rfl (lv_at hl 1 rfl) ?_
          refine lv_iload_n hx hb d_N_isTriangle_40 rfl (lv_at hl 2 rfl) ?_
          obtain ⟨r30, hv32, hf⟩ := o_b hf
          refine rc_i (va_runV (As := [.int x1, .int x2]) (rest := []) ⟨hx, hb, hml, hown, hts⟩ (c_N_earlier l dC dI cI cZ gN bTh bXs bYs bA bB bC bEd n_xs n_ys n_kn n_ct n_rd x1 x2 r30 hv32) (cwV 2 hts (gd_V bw_442 bw_444 bp_19 bw_5 bw_445) rfl rfl rfl ⟨rfl, hd_N_earlier⟩ ⟨Nat.le_of_ble_eq_true rfl, Nat.le_of_ble_eq_true rfl⟩) (pv_r (wc := [(gN, .inr (4, [.ref bTh, .ref bXs, .ref bYs, .int n_kn, .int n_ct, .ref bA, .ref bB, .ref bC, .int n_rd, .ref bEd])), (bXs, .inl (cI, 20, .inl n_xs)), (bYs, .inl (cI, 20, .inl n_ys))]) hK hP [0, 2, 3] rfl 0 (ci := 4) rfl rfl) rfl rfl hl.1 rfl (lv_room (Nat.le_of_ble_eq_true rfl)) d_N_isTriangle_41 ⟨Nat.zero_le _, Nat.zero_le _⟩) ?_
          refine lv_if_eq (tgt := 56) hx hb d_N_isTriangle_44 (by decide) (fun hc33 => ?_) (fun hc33 => ?_)
          · have hf := o_t hf hc33
            refine lv_iconst (v := (0 : Int32)) hx hb d_N_isTriangle_56 rfl ?_
            cases hf
            exact rr_z hx hb hr hlocks rfl d_N_isTriangle_57
          · have hf := o_f hf hc33
            refine lv_aload_n hx hb d_N_isTriangle_47 rfl (lv_at hl 0 rfl) ?_
            refine lv_iload_n hx hb d_N_isTriangle_48 rfl (lv_at hl 1 rfl) ?_
            refine lv_iload_n hx hb d_N_isTriangle_49 rfl (lv_at hl 3 rfl) ?_
            obtain ⟨r34, hv36, hf⟩ := o_b hf
            refine rc_i (va_runV (As := [.int x1, .int x3]) (rest := []) ⟨hx, hb, hml, hown, hts⟩ (c_N_earlier l dC dI cI cZ gN bTh bXs bYs bA bB bC bEd n_xs n_ys n_kn n_ct n_rd x1 x3 r34 hv36) (cwV 2 hts (gd_V bw_442 bw_444 bp_19 bw_5 bw_445) rfl rfl rfl ⟨rfl, hd_N_earlier⟩ ⟨Nat.le_of_ble_eq_true rfl, Nat.le_of_ble_eq_true rfl⟩) (pv_r (wc := [(gN, .inr (4, [.ref bTh, .ref bXs, .ref bYs, .int n_kn, .int n_ct, .ref bA, .ref bB, .ref bC, .int n_rd, .ref bEd])), (bXs, .inl (cI, 20, .inl n_xs)), (bYs, .inl (cI, 20, .inl n_ys))]) hK hP [0, 2, 3] rfl 0 (ci := 4) rfl rfl) rfl rfl hl.1 rfl (lv_room (Nat.le_of_ble_eq_true rfl)) d_N_isTriangle_50 ⟨Nat.zero_le _, Nat.zero_le _⟩) ?_
            refine lv_if_ne (tgt := 58) hx hb d_N_isTriangle_53 (by decide) (fun hc37 => ?_) (fun hc37 => ?_)
            · have hf := o_f hf hc37
              refine lv_iconst (v := (0 : Int32)) hx hb d_N_isTriangle_58 rfl ?_
              refine lv_istore (lv' := [(4, .int (0 : Int32)), (0, .ref gN), (1, .int x1), (2, .int x2), (3, .int x3)]) hx hb d_N_isTriangle_59 hl (by decide) rfl (fun ls hl => ?_)
              exact t_N_isTriangle_L61 C0 hK hP  600 x1 x2 x3 (0 : Int32) hf ls (lv_sub hl [1, 2, 3, 4, 0] rfl)
            · have hf := o_t hf hc37
              refine lv_iconst (v := (0 : Int32)) hx hb d_N_isTriangle_56 rfl ?_
              cases hf
              exact rr_z hx hb hr hlocks rfl d_N_isTriangle_57
set_option maxHeartbeats 4000000 in
set_option maxRecDepth 100000 in
theorem t_N_work_L36 {p : Program} {l : Launch} {e : Env} {s : State} {m : MethodId} {args : Array Value} {below : List Frame} {meth : Method} {c : Code} {dC : Nat → ClassId} {dI : Nat → Nat → Nat} {cI cZ : ClassId} {gN bTh bXs bYs bA bB bC bEd : Nat} {n_th : Nat → Int32} {n_xs : Nat → Int32} {n_ys : Nat → Int32} {n_rd : Int32} {n_kn' : Int32} {n_ct' : Int32} {n_a' : Nat → Int32} {n_b' : Nat → Int32} {n_c' : Nat → Int32} {A : Nat → Prop} (C0 : cx p s m args meth c b_N_work none 4 R_N) (hK : gK dC dI cI cZ s) (hA : ∀ q, s.heap.size ≤ q → A q) {k20 : Int32 → Int32 → (Nat → Int32) → (Nat → Int32) → (Nat → Int32) → Int32 → Option (Int32 × Int32 × (Nat → Int32) × (Nat → Int32) × (Nat → Int32))} (hk20 : ∀ (n_kn : Int32) (n_ct : Int32) (n_a : Nat → Int32) (n_b : Nat → Int32) (n_c : Nat → Int32) (x1 : Int32), k20 n_kn n_ct n_a n_b n_c x1 = some (n_kn', n_ct', n_a', n_b', n_c') → ∀ (H : Heap) (locs : List Loc), va_P (dC, dI) vwCl [(gN, .inr (4, [.ref bTh, .ref bXs, .ref bYs, .int n_kn, .int n_ct, .ref bA, .ref bB, .ref bC, .int n_rd, .ref bEd])), (bTh, .inl (cZ, 20, .inl n_th)), (bXs, .inl (cI, 20, .inl n_xs)), (bYs, .inl (cI, 20, .inl n_ys)), (bA, .inl (cI, 40, .inl n_a)), (bB, .inl (cI, 40, .inl n_b)), (bC, .inl (cI, 40, .inl n_c))] H → va_D A [(gN, .inr (4, [.ref bTh, .ref bXs, .ref bYs, .int n_kn, .int n_ct, .ref bA, .ref bB, .ref bC, .int n_rd, .ref bEd])), (bTh, .inl (cZ, 20, .inl n_th)), (bXs, .inl (cI, 20, .inl n_xs)), (bYs, .inl (cI, 20, .inl n_ys)), (bA, .inl (cI, 40, .inl n_a)), (bB, .inl (cI, 40, .inl n_b)), (bC, .inl (cI, 40, .inl n_c))] → va_S A s.heap H locs → ∀ (ls : Array Slot), lv_has ls 4 [(0, .ref gN), (1, .int x1)] → W p l e (headSpec w_N_work ({ frames := 4, cells := 0, slots := 0, locals := 120 } : Room)).room s m args below meth c H locs 0 0 (MQ below (QwV dC dI A [(gN, .inr (4, [.ref bTh, .ref bXs, .ref bYs, .int n_kn', .int n_ct', .ref bA, .ref bB, .ref bC, .int n_rd, .ref bEd])), (bTh, .inl (cZ, 20, .inl n_th)), (bXs, .inl (cI, 20, .inl n_xs)), (bYs, .inl (cI, 20, .inl n_ys)), (bA, .inl (cI, 40, .inl n_a')), (bB, .inl (cI, 40, .inl n_b')), (bC, .inl (cI, 40, .inl n_c'))]) args s 0 0 A) (F0 m 20 ls [])) {k28 : Int32 → Int32 → (Nat → Int32) → (Nat → Int32) → (Nat → Int32) → Int32 → Int32 → Option (Int32 × Int32 × (Nat → Int32) × (Nat → Int32) × (Nat → Int32))} (hk28 : ∀ (n_kn : Int32) (n_ct : Int32) (n_a : Nat → Int32) (n_b : Nat → Int32) (n_c : Nat → Int32) (x1 : Int32) (x2 : Int32), k28 n_kn n_ct n_a n_b n_c x1 x2 = some (n_kn', n_ct', n_a', n_b', n_c') → ∀ (H : Heap) (locs : List Loc), va_P (dC, dI) vwCl [(gN, .inr (4, [.ref bTh, .ref bXs, .ref bYs, .int n_kn, .int n_ct, .ref bA, .ref bB, .ref bC, .int n_rd, .ref bEd])), (bTh, .inl (cZ, 20, .inl n_th)), (bXs, .inl (cI, 20, .inl n_xs)), (bYs, .inl (cI, 20, .inl n_ys)), (bA, .inl (cI, 40, .inl n_a)), (bB, .inl (cI, 40, .inl n_b)), (bC, .inl (cI, 40, .inl n_c))] H → va_D A [(gN, .inr (4, [.ref bTh, .ref bXs, .ref bYs, .int n_kn, .int n_ct, .ref bA, .ref bB, .ref bC, .int n_rd, .ref bEd])), (bTh, .inl (cZ, 20, .inl n_th)), (bXs, .inl (cI, 20, .inl n_xs)), (bYs, .inl (cI, 20, .inl n_ys)), (bA, .inl (cI, 40, .inl n_a)), (bB, .inl (cI, 40, .inl n_b)), (bC, .inl (cI, 40, .inl n_c))] → va_S A s.heap H locs → ∀ (ls : Array Slot), lv_has ls 4 [(0, .ref gN), (1, .int x1), (2, .int x2)] → W p l e (headSpec w_N_work ({ frames := 4, cells := 0, slots := 0, locals := 120 } : Room)).room s m args below meth c H locs 0 0 (MQ below (QwV dC dI A [(gN, .inr (4, [.ref bTh, .ref bXs, .ref bYs, .int n_kn', .int n_ct', .ref bA, .ref bB, .ref bC, .int n_rd, .ref bEd])), (bTh, .inl (cZ, 20, .inl n_th)), (bXs, .inl (cI, 20, .inl n_xs)), (bYs, .inl (cI, 20, .inl n_ys)), (bA, .inl (cI, 40, .inl n_a')), (bB, .inl (cI, 40, .inl n_b')), (bC, .inl (cI, 40, .inl n_c'))]) args s 0 0 A) (F0 m 28 ls [])) : ∀ (n : Nat) (n_kn : Int32) (n_ct : Int32) (n_a : Nat → Int32) (n_b : Nat → Int32) (n_c : Nat → Int32) (x1 : Int32) (x2 : Int32) (x3 : Int32), f_N_work_L36 k20 k28 n_th n_xs n_ys n n_kn n_ct n_a n_b n_c x1 x2 x3 = some (n_kn', n_ct', n_a', n_b', n_c') → ∀ (H : Heap) (locs : List Loc), va_P (dC, dI) vwCl [(gN, .inr (4, [.ref bTh, .ref bXs, .ref bYs, .int n_kn, .int n_ct, .ref bA, .ref bB, .ref bC, .int n_rd, .ref bEd])), (bTh, .inl (cZ, 20, .inl n_th)), (bXs, .inl (cI, 20, .inl n_xs)), (bYs, .inl (cI, 20, .inl n_ys)), (bA, .inl (cI, 40, .inl n_a)), (bB, .inl (cI, 40, .inl n_b)), (bC, .inl (cI, 40, .inl n_c))] H → va_D A [(gN, .inr (4, [.ref bTh, .ref bXs, .ref bYs, .int n_kn, .int n_ct, .ref bA, .ref bB, .ref bC, .int n_rd, .ref bEd])), (bTh, .inl (cZ, 20, .inl n_th)), (bXs, .inl (cI, 20, .inl n_xs)), (bYs, .inl (cI, 20, .inl n_ys)), (bA, .inl (cI, 40, .inl n_a)), (bB, .inl (cI, 40, .inl n_b)), (bC, .inl (cI, 40, .inl n_c))] → va_S A s.heap H locs → ∀ (ls : Array Slot), lv_has ls 4 [(0, .ref gN), (1, .int x1), (2, .int x2), (3, .int x3)] → W p l e (headSpec w_N_work ({ frames := 4, cells := 0, slots := 0, locals := 120 } : Room)).room s m args below meth c H locs 0 0 (MQ below (QwV dC dI A [(gN, .inr (4, [.ref bTh, .ref bXs, .ref bYs, .int n_kn', .int n_ct', .ref bA, .ref bB, .ref bC, .int n_rd, .ref bEd])), (bTh, .inl (cZ, 20, .inl n_th)), (bXs, .inl (cI, 20, .inl n_xs)), (bYs, .inl (cI, 20, .inl n_ys)), (bA, .inl (cI, 40, .inl n_a')), (bB, .inl (cI, 40, .inl n_b')), (bC, .inl (cI, 40, .inl n_c'))]) args s 0 0 A) (F0 m 36 ls []) := by
  obtain ⟨hx, hb, hr, hml, hts, hown, hlocks⟩ := id C0
  intro n
  induction n with
  | zero =>
    intro n_kn n_ct n_a n_b n_c x1 x2 x3 hf
    exact (o_n hf).elim
  | succ n ih =>
    intro n_kn n_ct n_a n_b n_c x1 x2 x3 hf H locs hP hD hS ls hl
    refine lv_iload_n hx hb d_N_work_36 rfl (lv_at hl 3 rfl) ?_
    refine lv_bipush (v := (20 : Int32)) hx hb d_N_work_37 rfl ?_
    refine lv_icmp_ge (tgt := 113) hx hb d_N_work_39 (by decide) (fun hc1 => ?_) (fun hc1 => ?_)
    · have hf := o_t hf hc1
      refine lv_iinc (v := (x2 + 1)) (lv' := [(2, .int (x2 + 1)), (0, .ref gN), (1, .int x1), (3, .int x3)]) hx hb d_N_work_113 hl (k := 2) rfl rfl (by decide) rfl (fun ls hl => ?_)
      refine lv_goto (tgt := 28) hx hb d_N_work_116 (by decide) ?_
      exact hk28 n_kn n_ct n_a n_b n_c x1 (x2 + 1) hf _ _ hP hD hS ls (lv_sub hl [1, 2, 0] rfl)
    · have hf := o_f hf hc1
      refine lv_iload_n hx hb d_N_work_42 rfl (lv_at hl 1 rfl) ?_
      refine lv_iload_n hx hb d_N_work_43 rfl (lv_at hl 2 rfl) ?_
      refine lv_icmp_eq (tgt := 107) hx hb d_N_work_44 (by decide) (fun hc2 => ?_) (fun hc2 => ?_)
      · have hf := o_t hf hc2
        refine lv_iinc (v := (x3 + 1)) (lv' := [(3, .int (x3 + 1)), (0, .ref gN), (1, .int x1), (2, .int x2)]) hx hb d_N_work_107 hl (k := 3) rfl rfl (by decide) rfl (fun ls hl => ?_)
        refine lv_goto (tgt := 36) hx hb d_N_work_110 (by decide) ?_
        exact ih n_kn n_ct n_a n_b n_c x1 x2 (x3 + 1) hf _ _ hP hD hS ls (lv_sub hl [1, 2, 3, 0] rfl)
      · have hf := o_f hf hc2
        refine lv_iload_n hx hb d_N_work_47 rfl (lv_at hl 2 rfl) ?_
        refine lv_iload_n hx hb d_N_work_48 rfl (lv_at hl 3 rfl) ?_
        refine lv_icmp_eq (tgt := 107) hx hb d_N_work_49 (by decide) (fun hc3 => ?_) (fun hc3 => ?_)
        · have hf := o_t hf hc3
          refine lv_iinc (v := (x3 + 1)) (lv' := [(3, .int (x3 + 1)), (0, .ref gN), (1, .int x1), (2, .int x2)]) hx hb d_N_work_107 hl (k := 3) rfl rfl (by decide) rfl (fun ls hl => ?_)
          refine lv_goto (tgt := 36) hx hb d_N_work_110 (by decide) ?_
          exact ih n_kn n_ct n_a n_b n_c x1 x2 (x3 + 1) hf _ _ hP hD hS ls (lv_sub hl [1, 2, 3, 0] rfl)
        · have hf := o_f hf hc3
          refine lv_iload_n hx hb d_N_work_52 rfl (lv_at hl 1 rfl) ?_
          refine lv_iload_n hx hb d_N_work_53 rfl (lv_at hl 3 rfl) ?_
          refine lv_icmp_eq (tgt := 107) hx hb d_N_work_54 (by decide) (fun hc4 => ?_) (fun hc4 => ?_)
          · have hf := o_t hf hc4
            refine lv_iinc (v := (x3 + 1)) (lv' := [(3, .int (x3 + 1)), (0, .ref gN), (1, .int x1), (2, .int x2)]) hx hb d_N_work_107 hl (k := 3) rfl rfl (by decide) rfl (fun ls hl => ?_)
            refine lv_goto (tgt := 36) hx hb d_N_work_110 (by decide) ?_
            exact ih n_kn n_ct n_a n_b n_c x1 x2 (x3 + 1) hf _ _ hP hD hS ls (lv_sub hl [1, 2, 3, 0] rfl)
          · have hf := o_f hf hc4
            refine lv_aload_n hx hb d_N_work_57 rfl (lv_at hl 0 rfl) ?_
            refine lv_iload_n hx hb d_N_work_58 rfl (lv_at hl 1 rfl) ?_
            refine lv_iload_n hx hb d_N_work_59 rfl (lv_at hl 2 rfl) ?_
            refine lv_iload_n hx hb d_N_work_60 rfl (lv_at hl 3 rfl) ?_
            obtain ⟨r5, hv7, hf⟩ := o_b hf
            refine rc_i (va_runV (As := [.int x1, .int x2, .int x3]) (rest := []) ⟨hx, hb, hml, hown, hts⟩ (c_N_isTriangle l dC dI cI cZ gN bTh bXs bYs bA bB bC bEd n_th n_xs n_ys n_kn n_ct n_rd x1 x2 x3 r5 hv7) (cwV 3 hts (gd_V bw_430 bw_432 bp_16 bw_5 bw_433) rfl rfl rfl ⟨rfl, hd_N_isTriangle⟩ ⟨Nat.le_of_ble_eq_true rfl, Nat.le_of_ble_eq_true rfl⟩) (pv_r (wc := [(gN, .inr (4, [.ref bTh, .ref bXs, .ref bYs, .int n_kn, .int n_ct, .ref bA, .ref bB, .ref bC, .int n_rd, .ref bEd])), (bTh, .inl (cZ, 20, .inl n_th)), (bXs, .inl (cI, 20, .inl n_xs)), (bYs, .inl (cI, 20, .inl n_ys))]) hK hP [0, 1, 2, 3] rfl 0 (ci := 4) rfl rfl) rfl rfl hl.1 rfl (lv_room (Nat.le_of_ble_eq_true rfl)) d_N_work_61 ⟨Nat.zero_le _, Nat.zero_le _⟩) ?_
            refine lv_if_eq (tgt := 107) hx hb d_N_work_64 (by decide) (fun hc8 => ?_) (fun hc8 => ?_)
            · have hf := o_t hf hc8
              refine lv_iinc (v := (x3 + 1)) (lv' := [(3, .int (x3 + 1)), (0, .ref gN), (1, .int x1), (2, .int x2)]) hx hb d_N_work_107 hl (k := 3) rfl rfl (by decide) rfl (fun ls hl => ?_)
              refine lv_goto (tgt := 36) hx hb d_N_work_110 (by decide) ?_
              exact ih n_kn n_ct n_a n_b n_c x1 x2 (x3 + 1) hf _ _ hP hD hS ls (lv_sub hl [1, 2, 3, 0] rfl)
            · have hf := o_f hf hc8
              refine lv_aload_n hx hb d_N_work_67 rfl (lv_at hl 0 rfl) ?_
              refine va_get (D := (dC, dI)) (ci := 4) (v := .ref bA) (C := R_N) (T := T_N) (N := 10) hx hb hts in_N hown hK.1 hP 0 rfl rfl 5 (by decide) (hts _ bw_362) (fun _ h9 => h9) rfl d_N_work_68 ?_
              refine lv_aload_n hx hb d_N_work_71 rfl (lv_at hl 0 rfl) ?_
              refine va_get (D := (dC, dI)) (ci := 4) (v := .int n_ct) (C := R_N) (T := T_N) (N := 10) hx hb hts in_N hown hK.1 hP 0 rfl rfl 4 (by decide) (hts _ bw_361) (fun _ h9 => h9) rfl d_N_work_72 ?_
              refine lv_iload_n hx hb d_N_work_75 rfl (lv_at hl 1 rfl) ?_
              obtain ⟨hi9, hf⟩ := o_i hf
              refine va_iast (cA := cI) (n := 40) (f := n_a) hx hb hK.1 hP hD hS 4 0 rfl rfl hi9 d_N_work_76 (fun H locs hP hD hS => ?_)
              have hP : va_P (dC, dI) vwCl [(gN, .inr (4, [.ref bTh, .ref bXs, .ref bYs, .int n_kn, .int n_ct, .ref bA, .ref bB, .ref bC, .int n_rd, .ref bEd])), (bTh, .inl (cZ, 20, .inl n_th)), (bXs, .inl (cI, 20, .inl n_xs)), (bYs, .inl (cI, 20, .inl n_ys)), (bA, .inl (cI, 40, .inl (upd n_a n_ct.toNatClampNeg x1))), (bB, .inl (cI, 40, .inl n_b)), (bC, .inl (cI, 40, .inl n_c))] H := hP
              have hD : va_D A [(gN, .inr (4, [.ref bTh, .ref bXs, .ref bYs, .int n_kn, .int n_ct, .ref bA, .ref bB, .ref bC, .int n_rd, .ref bEd])), (bTh, .inl (cZ, 20, .inl n_th)), (bXs, .inl (cI, 20, .inl n_xs)), (bYs, .inl (cI, 20, .inl n_ys)), (bA, .inl (cI, 40, .inl (upd n_a n_ct.toNatClampNeg x1))), (bB, .inl (cI, 40, .inl n_b)), (bC, .inl (cI, 40, .inl n_c))] := hD
              refine lv_aload_n hx hb d_N_work_77 rfl (lv_at hl 0 rfl) ?_
              refine va_get (D := (dC, dI)) (ci := 4) (v := .ref bB) (C := R_N) (T := T_N) (N := 10) hx hb hts in_N hown hK.1 hP 0 rfl rfl 6 (by decide) (hts _ bw_363) (fun _ h9 => h9) rfl d_N_work_78 ?_
              refine lv_aload_n hx hb d_N_work_81 rfl (lv_at hl 0 rfl) ?_
              refine va_get (D := (dC, dI)) (ci := 4) (v := .int n_ct) (C := R_N) (T := T_N) (N := 10) hx hb hts in_N hown hK.1 hP 0 rfl rfl 4 (by decide) (hts _ bw_361) (fun _ h9 => h9) rfl d_N_work_82 ?_
              refine lv_iload_n hx hb d_N_work_85 rfl (lv_at hl 2 rfl) ?_
              obtain ⟨hi10, hf⟩ := o_i hf
              refine va_iast (cA := cI) (n := 40) (f := n_b) hx hb hK.1 hP hD hS 5 0 rfl rfl hi10 d_N_work_86 (fun H locs hP hD hS => ?_)
              have hP : va_P (dC, dI) vwCl [(gN, .inr (4, [.ref bTh, .ref bXs, .ref bYs, .int n_kn, .int n_ct, .ref bA, .ref bB, .ref bC, .int n_rd, .ref bEd])), (bTh, .inl (cZ, 20, .inl n_th)), (bXs, .inl (cI, 20, .inl n_xs)), (bYs, .inl (cI, 20, .inl n_ys)), (bA, .inl (cI, 40, .inl (upd n_a n_ct.toNatClampNeg x1))), (bB, .inl (cI, 40, .inl (upd n_b n_ct.toNatClampNeg x2))), (bC, .inl (cI, 40, .inl n_c))] H := hP
              have hD : va_D A [(gN, .inr (4, [.ref bTh, .ref bXs, .ref bYs, .int n_kn, .int n_ct, .ref bA, .ref bB, .ref bC, .int n_rd, .ref bEd])), (bTh, .inl (cZ, 20, .inl n_th)), (bXs, .inl (cI, 20, .inl n_xs)), (bYs, .inl (cI, 20, .inl n_ys)), (bA, .inl (cI, 40, .inl (upd n_a n_ct.toNatClampNeg x1))), (bB, .inl (cI, 40, .inl (upd n_b n_ct.toNatClampNeg x2))), (bC, .inl (cI, 40, .inl n_c))] := hD
              refine lv_aload_n hx hb d_N_work_87 rfl (lv_at hl 0 rfl) ?_
              refine va_get (D := (dC, dI)) (ci := 4) (v := .ref bC) (C := R_N) (T := T_N) (N := 10) hx hb hts in_N hown hK.1 hP 0 rfl rfl 7 (by decide) (hts _ bw_364) (fun _ h9 => h9) rfl d_N_work_88 ?_
              refine lv_aload_n hx hb d_N_work_91 rfl (lv_at hl 0 rfl) ?_
              refine va_get (D := (dC, dI)) (ci := 4) (v := .int n_ct) (C := R_N) (T := T_N) (N := 10) hx hb hts in_N hown hK.1 hP 0 rfl rfl 4 (by decide) (hts _ bw_361) (fun _ h9 => h9) rfl d_N_work_92 ?_
              refine lv_iload_n hx hb d_N_work_95 rfl (lv_at hl 3 rfl) ?_
              obtain ⟨hi11, hf⟩ := o_i hf
              refine va_iast (cA := cI) (n := 40) (f := n_c) hx hb hK.1 hP hD hS 6 0 rfl rfl hi11 d_N_work_96 (fun H locs hP hD hS => ?_)
              have hP : va_P (dC, dI) vwCl [(gN, .inr (4, [.ref bTh, .ref bXs, .ref bYs, .int n_kn, .int n_ct, .ref bA, .ref bB, .ref bC, .int n_rd, .ref bEd])), (bTh, .inl (cZ, 20, .inl n_th)), (bXs, .inl (cI, 20, .inl n_xs)), (bYs, .inl (cI, 20, .inl n_ys)), (bA, .inl (cI, 40, .inl (upd n_a n_ct.toNatClampNeg x1))), (bB, .inl (cI, 40, .inl (upd n_b n_ct.toNatClampNeg x2))), (bC, .inl (cI, 40, .inl (upd n_c n_ct.toNatClampNeg x3)))] H := hP
              have hD : va_D A [(gN, .inr (4, [.ref bTh, .ref bXs, .ref bYs, .int n_kn, .int n_ct, .ref bA, .ref bB, .ref bC, .int n_rd, .ref bEd])), (bTh, .inl (cZ, 20, .inl n_th)), (bXs, .inl (cI, 20, .inl n_xs)), (bYs, .inl (cI, 20, .inl n_ys)), (bA, .inl (cI, 40, .inl (upd n_a n_ct.toNatClampNeg x1))), (bB, .inl (cI, 40, .inl (upd n_b n_ct.toNatClampNeg x2))), (bC, .inl (cI, 40, .inl (upd n_c n_ct.toNatClampNeg x3)))] := hD
              refine lv_aload_n hx hb d_N_work_97 rfl (lv_at hl 0 rfl) ?_
              refine lv_dup hx hb d_N_work_98 rfl ?_
              refine va_get (D := (dC, dI)) (ci := 4) (v := .int n_ct) (C := R_N) (T := T_N) (N := 10) hx hb hts in_N hown hK.1 hP 0 rfl rfl 4 (by decide) (hts _ bw_361) (fun _ h9 => h9) rfl d_N_work_99 ?_
              refine lv_iconst (v := (1 : Int32)) hx hb d_N_work_102 rfl ?_
              refine lv_iadd hx hb d_N_work_103 ?_
              refine va_put (D := (dC, dI)) (ci := 4) (v := .int (n_ct + (1 : Int32))) (ty := .int) (C := R_N) (T := T_N) (N := 10) hx hb hts in_N ty_N tok_N nok_N hown hK.1 hP hD hS 0 rfl rfl 4 (by decide) (hts _ bw_361) (fun _ h9 => h9) rfl (by decide +kernel) rfl rfl (Nat.le_of_ble_eq_true rfl) d_N_work_104 (fun H locs hP hD hS => ?_)
              have hP : va_P (dC, dI) vwCl [(gN, .inr (4, [.ref bTh, .ref bXs, .ref bYs, .int n_kn, .int (n_ct + (1 : Int32)), .ref bA, .ref bB, .ref bC, .int n_rd, .ref bEd])), (bTh, .inl (cZ, 20, .inl n_th)), (bXs, .inl (cI, 20, .inl n_xs)), (bYs, .inl (cI, 20, .inl n_ys)), (bA, .inl (cI, 40, .inl (upd n_a n_ct.toNatClampNeg x1))), (bB, .inl (cI, 40, .inl (upd n_b n_ct.toNatClampNeg x2))), (bC, .inl (cI, 40, .inl (upd n_c n_ct.toNatClampNeg x3)))] H := hP
              have hD : va_D A [(gN, .inr (4, [.ref bTh, .ref bXs, .ref bYs, .int n_kn, .int (n_ct + (1 : Int32)), .ref bA, .ref bB, .ref bC, .int n_rd, .ref bEd])), (bTh, .inl (cZ, 20, .inl n_th)), (bXs, .inl (cI, 20, .inl n_xs)), (bYs, .inl (cI, 20, .inl n_ys)), (bA, .inl (cI, 40, .inl (upd n_a n_ct.toNatClampNeg x1))), (bB, .inl (cI, 40, .inl (upd n_b n_ct.toNatClampNeg x2))), (bC, .inl (cI, 40, .inl (upd n_c n_ct.toNatClampNeg x3)))] := hD
              refine lv_iinc (v := (x3 + 1)) (lv' := [(3, .int (x3 + 1)), (0, .ref gN), (1, .int x1), (2, .int x2)]) hx hb d_N_work_107 hl (k := 3) rfl rfl (by decide) rfl (fun ls hl => ?_)
              refine lv_goto (tgt := 36) hx hb d_N_work_110 (by decide) ?_
              exact ih n_kn (n_ct + (1 : Int32)) (upd n_a n_ct.toNatClampNeg x1) (upd n_b n_ct.toNatClampNeg x2) (upd n_c n_ct.toNatClampNeg x3) x1 x2 (x3 + 1) hf _ _ hP hD hS ls (lv_sub hl [1, 2, 3, 0] rfl)
set_option maxHeartbeats 4000000 in
set_option maxRecDepth 100000 in
theorem t_N_work_L28 {p : Program} {l : Launch} {e : Env} {s : State} {m : MethodId} {args : Array Value} {below : List Frame} {meth : Method} {c : Code} {dC : Nat → ClassId} {dI : Nat → Nat → Nat} {cI cZ : ClassId} {gN bTh bXs bYs bA bB bC bEd : Nat} {n_th : Nat → Int32} {n_xs : Nat → Int32} {n_ys : Nat → Int32} {n_rd : Int32} {n_kn' : Int32} {n_ct' : Int32} {n_a' : Nat → Int32} {n_b' : Nat → Int32} {n_c' : Nat → Int32} {A : Nat → Prop} (C0 : cx p s m args meth c b_N_work none 4 R_N) (hK : gK dC dI cI cZ s) (hA : ∀ q, s.heap.size ≤ q → A q) {k20 : Int32 → Int32 → (Nat → Int32) → (Nat → Int32) → (Nat → Int32) → Int32 → Option (Int32 × Int32 × (Nat → Int32) × (Nat → Int32) × (Nat → Int32))} (hk20 : ∀ (n_kn : Int32) (n_ct : Int32) (n_a : Nat → Int32) (n_b : Nat → Int32) (n_c : Nat → Int32) (x1 : Int32), k20 n_kn n_ct n_a n_b n_c x1 = some (n_kn', n_ct', n_a', n_b', n_c') → ∀ (H : Heap) (locs : List Loc), va_P (dC, dI) vwCl [(gN, .inr (4, [.ref bTh, .ref bXs, .ref bYs, .int n_kn, .int n_ct, .ref bA, .ref bB, .ref bC, .int n_rd, .ref bEd])), (bTh, .inl (cZ, 20, .inl n_th)), (bXs, .inl (cI, 20, .inl n_xs)), (bYs, .inl (cI, 20, .inl n_ys)), (bA, .inl (cI, 40, .inl n_a)), (bB, .inl (cI, 40, .inl n_b)), (bC, .inl (cI, 40, .inl n_c))] H → va_D A [(gN, .inr (4, [.ref bTh, .ref bXs, .ref bYs, .int n_kn, .int n_ct, .ref bA, .ref bB, .ref bC, .int n_rd, .ref bEd])), (bTh, .inl (cZ, 20, .inl n_th)), (bXs, .inl (cI, 20, .inl n_xs)), (bYs, .inl (cI, 20, .inl n_ys)), (bA, .inl (cI, 40, .inl n_a)), (bB, .inl (cI, 40, .inl n_b)), (bC, .inl (cI, 40, .inl n_c))] → va_S A s.heap H locs → ∀ (ls : Array Slot), lv_has ls 4 [(0, .ref gN), (1, .int x1)] → W p l e (headSpec w_N_work ({ frames := 4, cells := 0, slots := 0, locals := 120 } : Room)).room s m args below meth c H locs 0 0 (MQ below (QwV dC dI A [(gN, .inr (4, [.ref bTh, .ref bXs, .ref bYs, .int n_kn', .int n_ct', .ref bA, .ref bB, .ref bC, .int n_rd, .ref bEd])), (bTh, .inl (cZ, 20, .inl n_th)), (bXs, .inl (cI, 20, .inl n_xs)), (bYs, .inl (cI, 20, .inl n_ys)), (bA, .inl (cI, 40, .inl n_a')), (bB, .inl (cI, 40, .inl n_b')), (bC, .inl (cI, 40, .inl n_c'))]) args s 0 0 A) (F0 m 20 ls [])) : ∀ (n : Nat) (n_kn : Int32) (n_ct : Int32) (n_a : Nat → Int32) (n_b : Nat → Int32) (n_c : Nat → Int32) (x1 : Int32) (x2 : Int32), f_N_work_L28 k20 n_th n_xs n_ys n n_kn n_ct n_a n_b n_c x1 x2 = some (n_kn', n_ct', n_a', n_b', n_c') → ∀ (H : Heap) (locs : List Loc), va_P (dC, dI) vwCl [(gN, .inr (4, [.ref bTh, .ref bXs, .ref bYs, .int n_kn, .int n_ct, .ref bA, .ref bB, .ref bC, .int n_rd, .ref bEd])), (bTh, .inl (cZ, 20, .inl n_th)), (bXs, .inl (cI, 20, .inl n_xs)), (bYs, .inl (cI, 20, .inl n_ys)), (bA, .inl (cI, 40, .inl n_a)), (bB, .inl (cI, 40, .inl n_b)), (bC, .inl (cI, 40, .inl n_c))] H → va_D A [(gN, .inr (4, [.ref bTh, .ref bXs, .ref bYs, .int n_kn, .int n_ct, .ref bA, .ref bB, .ref bC, .int n_rd, .ref bEd])), (bTh, .inl (cZ, 20, .inl n_th)), (bXs, .inl (cI, 20, .inl n_xs)), (bYs, .inl (cI, 20, .inl n_ys)), (bA, .inl (cI, 40, .inl n_a)), (bB, .inl (cI, 40, .inl n_b)), (bC, .inl (cI, 40, .inl n_c))] → va_S A s.heap H locs → ∀ (ls : Array Slot), lv_has ls 4 [(0, .ref gN), (1, .int x1), (2, .int x2)] → W p l e (headSpec w_N_work ({ frames := 4, cells := 0, slots := 0, locals := 120 } : Room)).room s m args below meth c H locs 0 0 (MQ below (QwV dC dI A [(gN, .inr (4, [.ref bTh, .ref bXs, .ref bYs, .int n_kn', .int n_ct', .ref bA, .ref bB, .ref bC, .int n_rd, .ref bEd])), (bTh, .inl (cZ, 20, .inl n_th)), (bXs, .inl (cI, 20, .inl n_xs)), (bYs, .inl (cI, 20, .inl n_ys)), (bA, .inl (cI, 40, .inl n_a')), (bB, .inl (cI, 40, .inl n_b')), (bC, .inl (cI, 40, .inl n_c'))]) args s 0 0 A) (F0 m 28 ls []) := by
  obtain ⟨hx, hb, hr, hml, hts, hown, hlocks⟩ := id C0
  intro n
  induction n with
  | zero =>
    intro n_kn n_ct n_a n_b n_c x1 x2 hf
    exact (o_n hf).elim
  | succ n ih =>
    intro n_kn n_ct n_a n_b n_c x1 x2 hf H locs hP hD hS ls hl
    refine lv_iload_n hx hb d_N_work_28 rfl (lv_at hl 2 rfl) ?_
    refine lv_bipush (v := (20 : Int32)) hx hb d_N_work_29 rfl ?_
    refine lv_icmp_ge (tgt := 119) hx hb d_N_work_31 (by decide) (fun hc12 => ?_) (fun hc12 => ?_)
    · have hf := o_t hf hc12
      refine lv_iinc (v := (x1 + 1)) (lv' := [(1, .int (x1 + 1)), (0, .ref gN), (2, .int x2)]) hx hb d_N_work_119 hl (k := 1) rfl rfl (by decide) rfl (fun ls hl => ?_)
      refine lv_goto (tgt := 20) hx hb d_N_work_122 (by decide) ?_
      exact hk20 n_kn n_ct n_a n_b n_c (x1 + 1) hf _ _ hP hD hS ls (lv_sub hl [1, 0] rfl)
    · have hf := o_f hf hc12
      refine lv_iconst (v := (0 : Int32)) hx hb d_N_work_34 rfl ?_
      refine lv_istore_n (lv' := [(3, .int (0 : Int32)), (0, .ref gN), (1, .int x1), (2, .int x2)]) hx hb d_N_work_35 rfl hl (by decide) rfl (fun ls hl => ?_)
      exact t_N_work_L36 C0 hK hA (k20 := k20) hk20 (k28 := (fun n_kn n_ct n_a n_b n_c x1 x2 => f_N_work_L28 k20 n_th n_xs n_ys n n_kn n_ct n_a n_b n_c x1 x2)) ih 600 n_kn n_ct n_a n_b n_c x1 x2 (0 : Int32) hf _ _ hP hD hS ls (lv_sub hl [1, 2, 3, 0] rfl)
set_option maxHeartbeats 4000000 in
set_option maxRecDepth 100000 in
theorem t_N_work_L20 {p : Program} {l : Launch} {e : Env} {s : State} {m : MethodId} {args : Array Value} {below : List Frame} {meth : Method} {c : Code} {dC : Nat → ClassId} {dI : Nat → Nat → Nat} {cI cZ : ClassId} {gN bTh bXs bYs bA bB bC bEd : Nat} {n_th : Nat → Int32} {n_xs : Nat → Int32} {n_ys : Nat → Int32} {n_rd : Int32} {n_kn' : Int32} {n_ct' : Int32} {n_a' : Nat → Int32} {n_b' : Nat → Int32} {n_c' : Nat → Int32} {A : Nat → Prop} (C0 : cx p s m args meth c b_N_work none 4 R_N) (hK : gK dC dI cI cZ s) (hA : ∀ q, s.heap.size ≤ q → A q) : ∀ (n : Nat) (n_kn : Int32) (n_ct : Int32) (n_a : Nat → Int32) (n_b : Nat → Int32) (n_c : Nat → Int32) (x1 : Int32), f_N_work_L20 n_th n_xs n_ys n n_kn n_ct n_a n_b n_c x1 = some (n_kn', n_ct', n_a', n_b', n_c') → ∀ (H : Heap) (locs : List Loc), va_P (dC, dI) vwCl [(gN, .inr (4, [.ref bTh, .ref bXs, .ref bYs, .int n_kn, .int n_ct, .ref bA, .ref bB, .ref bC, .int n_rd, .ref bEd])), (bTh, .inl (cZ, 20, .inl n_th)), (bXs, .inl (cI, 20, .inl n_xs)), (bYs, .inl (cI, 20, .inl n_ys)), (bA, .inl (cI, 40, .inl n_a)), (bB, .inl (cI, 40, .inl n_b)), (bC, .inl (cI, 40, .inl n_c))] H → va_D A [(gN, .inr (4, [.ref bTh, .ref bXs, .ref bYs, .int n_kn, .int n_ct, .ref bA, .ref bB, .ref bC, .int n_rd, .ref bEd])), (bTh, .inl (cZ, 20, .inl n_th)), (bXs, .inl (cI, 20, .inl n_xs)), (bYs, .inl (cI, 20, .inl n_ys)), (bA, .inl (cI, 40, .inl n_a)), (bB, .inl (cI, 40, .inl n_b)), (bC, .inl (cI, 40, .inl n_c))] → va_S A s.heap H locs → ∀ (ls : Array Slot), lv_has ls 4 [(0, .ref gN), (1, .int x1)] → W p l e (headSpec w_N_work ({ frames := 4, cells := 0, slots := 0, locals := 120 } : Room)).room s m args below meth c H locs 0 0 (MQ below (QwV dC dI A [(gN, .inr (4, [.ref bTh, .ref bXs, .ref bYs, .int n_kn', .int n_ct', .ref bA, .ref bB, .ref bC, .int n_rd, .ref bEd])), (bTh, .inl (cZ, 20, .inl n_th)), (bXs, .inl (cI, 20, .inl n_xs)), (bYs, .inl (cI, 20, .inl n_ys)), (bA, .inl (cI, 40, .inl n_a')), (bB, .inl (cI, 40, .inl n_b')), (bC, .inl (cI, 40, .inl n_c'))]) args s 0 0 A) (F0 m 20 ls []) := by
  obtain ⟨hx, hb, hr, hml, hts, hown, hlocks⟩ := id C0
  intro n
  induction n with
  | zero =>
    intro n_kn n_ct n_a n_b n_c x1 hf
    exact (o_n hf).elim
  | succ n ih =>
    intro n_kn n_ct n_a n_b n_c x1 hf H locs hP hD hS ls hl
    refine lv_iload_n hx hb d_N_work_20 rfl (lv_at hl 1 rfl) ?_
    refine lv_bipush (v := (20 : Int32)) hx hb d_N_work_21 rfl ?_
    refine lv_icmp_ge (tgt := 125) hx hb d_N_work_23 (by decide) (fun hc13 => ?_) (fun hc13 => ?_)
    · have hf := o_t hf hc13
      cases hf
      exact wr_v hx hb hr hlocks hP hD hS d_N_work_125
    · have hf := o_f hf hc13
      refine lv_iconst (v := (0 : Int32)) hx hb d_N_work_26 rfl ?_
      refine lv_istore_n (lv' := [(2, .int (0 : Int32)), (0, .ref gN), (1, .int x1)]) hx hb d_N_work_27 rfl hl (by decide) rfl (fun ls hl => ?_)
      exact t_N_work_L28 C0 hK hA (k20 := (fun n_kn n_ct n_a n_b n_c x1 => f_N_work_L20 n_th n_xs n_ys n n_kn n_ct n_a n_b n_c x1)) ih 600 n_kn n_ct n_a n_b n_c x1 (0 : Int32) hf _ _ hP hD hS ls (lv_sub hl [1, 2, 0] rfl)
set_option maxHeartbeats 4000000 in
set_option maxRecDepth 100000 in
theorem t_N_work_e {p : Program} {l : Launch} {e : Env} {s : State} {m : MethodId} {args : Array Value} {below : List Frame} {meth : Method} {c : Code} {dC : Nat → ClassId} {dI : Nat → Nat → Nat} {cI cZ : ClassId} {gN bTh bXs bYs bA bB bC bEd : Nat} {n_th : Nat → Int32} {n_xs : Nat → Int32} {n_ys : Nat → Int32} {n_rd : Int32} {n_kn' : Int32} {n_ct' : Int32} {n_a' : Nat → Int32} {n_b' : Nat → Int32} {n_c' : Nat → Int32} {A : Nat → Prop} (C0 : cx p s m args meth c b_N_work none 4 R_N) (hK : gK dC dI cI cZ s) (hA : ∀ q, s.heap.size ≤ q → A q) : ∀ (n_kn : Int32) (n_ct : Int32) (n_a : Nat → Int32) (n_b : Nat → Int32) (n_c : Nat → Int32), f_N_work n_th n_xs n_ys n_kn n_ct n_a n_b n_c = some (n_kn', n_ct', n_a', n_b', n_c') → ∀ (H : Heap) (locs : List Loc), va_P (dC, dI) vwCl [(gN, .inr (4, [.ref bTh, .ref bXs, .ref bYs, .int n_kn, .int n_ct, .ref bA, .ref bB, .ref bC, .int n_rd, .ref bEd])), (bTh, .inl (cZ, 20, .inl n_th)), (bXs, .inl (cI, 20, .inl n_xs)), (bYs, .inl (cI, 20, .inl n_ys)), (bA, .inl (cI, 40, .inl n_a)), (bB, .inl (cI, 40, .inl n_b)), (bC, .inl (cI, 40, .inl n_c))] H → va_D A [(gN, .inr (4, [.ref bTh, .ref bXs, .ref bYs, .int n_kn, .int n_ct, .ref bA, .ref bB, .ref bC, .int n_rd, .ref bEd])), (bTh, .inl (cZ, 20, .inl n_th)), (bXs, .inl (cI, 20, .inl n_xs)), (bYs, .inl (cI, 20, .inl n_ys)), (bA, .inl (cI, 40, .inl n_a)), (bB, .inl (cI, 40, .inl n_b)), (bC, .inl (cI, 40, .inl n_c))] → va_S A s.heap H locs → ∀ (ls : Array Slot), lv_has ls 4 [(0, .ref gN)] → W p l e (headSpec w_N_work ({ frames := 4, cells := 0, slots := 0, locals := 120 } : Room)).room s m args below meth c H locs 0 0 (MQ below (QwV dC dI A [(gN, .inr (4, [.ref bTh, .ref bXs, .ref bYs, .int n_kn', .int n_ct', .ref bA, .ref bB, .ref bC, .int n_rd, .ref bEd])), (bTh, .inl (cZ, 20, .inl n_th)), (bXs, .inl (cI, 20, .inl n_xs)), (bYs, .inl (cI, 20, .inl n_ys)), (bA, .inl (cI, 40, .inl n_a')), (bB, .inl (cI, 40, .inl n_b')), (bC, .inl (cI, 40, .inl n_c'))]) args s 0 0 A) (F0 m 0 ls []) := by
  obtain ⟨hx, hb, hr, hml, hts, hown, hlocks⟩ := id C0
  intro n_kn n_ct n_a n_b n_c hf H locs hP hD hS ls hl
  refine lv_aload_n hx hb d_N_work_0 rfl (lv_at hl 0 rfl) ?_
  refine va_get (D := (dC, dI)) (ci := 4) (v := .int n_kn) (C := R_N) (T := T_N) (N := 10) hx hb hts in_N hown hK.1 hP 0 rfl rfl 3 (by decide) (hts _ bw_360) (fun _ h9 => h9) rfl d_N_work_1 ?_
  refine lv_if_eq (tgt := 8) hx hb d_N_work_4 (by decide) (fun hc14 => ?_) (fun hc14 => ?_)
  · have hf := o_t hf hc14
    refine lv_aload_n hx hb d_N_work_8 rfl (lv_at hl 0 rfl) ?_
    refine lv_iconst (v := (1 : Int32)) hx hb d_N_work_9 rfl ?_
    refine va_put (D := (dC, dI)) (ci := 4) (v := .int (1 : Int32)) (ty := .boolean) (C := R_N) (T := T_N) (N := 10) hx hb hts in_N ty_N tok_N nok_N hown hK.1 hP hD hS 0 rfl rfl 3 (by decide) (hts _ bw_360) (fun _ h9 => h9) rfl (by decide +kernel) rfl rfl (Nat.le_of_ble_eq_true rfl) d_N_work_10 (fun H locs hP hD hS => ?_)
    have hP : va_P (dC, dI) vwCl [(gN, .inr (4, [.ref bTh, .ref bXs, .ref bYs, .int (1 : Int32), .int n_ct, .ref bA, .ref bB, .ref bC, .int n_rd, .ref bEd])), (bTh, .inl (cZ, 20, .inl n_th)), (bXs, .inl (cI, 20, .inl n_xs)), (bYs, .inl (cI, 20, .inl n_ys)), (bA, .inl (cI, 40, .inl n_a)), (bB, .inl (cI, 40, .inl n_b)), (bC, .inl (cI, 40, .inl n_c))] H := hP
    have hD : va_D A [(gN, .inr (4, [.ref bTh, .ref bXs, .ref bYs, .int (1 : Int32), .int n_ct, .ref bA, .ref bB, .ref bC, .int n_rd, .ref bEd])), (bTh, .inl (cZ, 20, .inl n_th)), (bXs, .inl (cI, 20, .inl n_xs)), (bYs, .inl (cI, 20, .inl n_ys)), (bA, .inl (cI, 40, .inl n_a)), (bB, .inl (cI, 40, .inl n_b)), (bC, .inl (cI, 40, .inl n_c))] := hD
    refine lv_aload_n hx hb d_N_work_13 rfl (lv_at hl 0 rfl) ?_
    refine lv_iconst (v := (0 : Int32)) hx hb d_N_work_14 rfl ?_
    refine va_put (D := (dC, dI)) (ci := 4) (v := .int (0 : Int32)) (ty := .int) (C := R_N) (T := T_N) (N := 10) hx hb hts in_N ty_N tok_N nok_N hown hK.1 hP hD hS 0 rfl rfl 4 (by decide) (hts _ bw_361) (fun _ h9 => h9) rfl (by decide +kernel) rfl rfl (Nat.le_of_ble_eq_true rfl) d_N_work_15 (fun H locs hP hD hS => ?_)
    have hP : va_P (dC, dI) vwCl [(gN, .inr (4, [.ref bTh, .ref bXs, .ref bYs, .int (1 : Int32), .int (0 : Int32), .ref bA, .ref bB, .ref bC, .int n_rd, .ref bEd])), (bTh, .inl (cZ, 20, .inl n_th)), (bXs, .inl (cI, 20, .inl n_xs)), (bYs, .inl (cI, 20, .inl n_ys)), (bA, .inl (cI, 40, .inl n_a)), (bB, .inl (cI, 40, .inl n_b)), (bC, .inl (cI, 40, .inl n_c))] H := hP
    have hD : va_D A [(gN, .inr (4, [.ref bTh, .ref bXs, .ref bYs, .int (1 : Int32), .int (0 : Int32), .ref bA, .ref bB, .ref bC, .int n_rd, .ref bEd])), (bTh, .inl (cZ, 20, .inl n_th)), (bXs, .inl (cI, 20, .inl n_xs)), (bYs, .inl (cI, 20, .inl n_ys)), (bA, .inl (cI, 40, .inl n_a)), (bB, .inl (cI, 40, .inl n_b)), (bC, .inl (cI, 40, .inl n_c))] := hD
    refine lv_iconst (v := (0 : Int32)) hx hb d_N_work_18 rfl ?_
    refine lv_istore_n (lv' := [(1, .int (0 : Int32)), (0, .ref gN)]) hx hb d_N_work_19 rfl hl (by decide) rfl (fun ls hl => ?_)
    exact t_N_work_L20 C0 hK hA  600 (1 : Int32) (0 : Int32) n_a n_b n_c (0 : Int32) hf _ _ hP hD hS ls (lv_sub hl [1, 0] rfl)
  · have hf := o_f hf hc14
    cases hf
    exact wr_v hx hb hr hlocks hP hD hS d_N_work_7
set_option maxHeartbeats 4000000 in
set_option maxRecDepth 100000 in
theorem c_N_work (l : Launch) (dC : Nat → ClassId) (dI : Nat → Nat → Nat) (cI cZ : ClassId) (gN bTh bXs bYs bA bB bC bEd : Nat) (n_th : Nat → Int32) (n_xs : Nat → Int32) (n_ys : Nat → Int32) (n_kn : Int32) (n_ct : Int32) (n_a : Nat → Int32) (n_b : Nat → Int32) (n_c : Nat → Int32) (n_rd : Int32) (n_kn' : Int32) (n_ct' : Int32) (n_a' : Nat → Int32) (n_b' : Nat → Int32) (n_c' : Nat → Int32) (sz : Nat) (hf : f_N_work n_th n_xs n_ys n_kn n_ct n_a n_b n_c = some (n_kn', n_ct', n_a', n_b', n_c')) : Met l y_N_work w_N_work ({ frames := 4, cells := 0, slots := 0, locals := 120 } : Room) (PcW dC dI cI cZ [.ref gN] [(gN, .inr (4, [.ref bTh, .ref bXs, .ref bYs, .int n_kn, .int n_ct, .ref bA, .ref bB, .ref bC, .int n_rd, .ref bEd])), (bTh, .inl (cZ, 20, .inl n_th)), (bXs, .inl (cI, 20, .inl n_xs)), (bYs, .inl (cI, 20, .inl n_ys)), (bA, .inl (cI, 40, .inl n_a)), (bB, .inl (cI, 40, .inl n_b)), (bC, .inl (cI, 40, .inl n_c))] sz) (QwV dC dI (va_A [(gN, .inr (4, [.ref bTh, .ref bXs, .ref bYs, .int n_kn, .int n_ct, .ref bA, .ref bB, .ref bC, .int n_rd, .ref bEd])), (bTh, .inl (cZ, 20, .inl n_th)), (bXs, .inl (cI, 20, .inl n_xs)), (bYs, .inl (cI, 20, .inl n_ys)), (bA, .inl (cI, 40, .inl n_a)), (bB, .inl (cI, 40, .inl n_b)), (bC, .inl (cI, 40, .inl n_c))] sz) [(gN, .inr (4, [.ref bTh, .ref bXs, .ref bYs, .int n_kn', .int n_ct', .ref bA, .ref bB, .ref bC, .int n_rd, .ref bEd])), (bTh, .inl (cZ, 20, .inl n_th)), (bXs, .inl (cI, 20, .inl n_xs)), (bYs, .inl (cI, 20, .inl n_ys)), (bA, .inl (cI, 40, .inl n_a')), (bB, .inl (cI, 40, .inl n_b')), (bC, .inl (cI, 40, .inl n_c'))]) 0 0 (va_A [(gN, .inr (4, [.ref bTh, .ref bXs, .ref bYs, .int n_kn, .int n_ct, .ref bA, .ref bB, .ref bC, .int n_rd, .ref bEd])), (bTh, .inl (cZ, 20, .inl n_th)), (bXs, .inl (cI, 20, .inl n_xs)), (bYs, .inl (cI, 20, .inl n_ys)), (bA, .inl (cI, 40, .inl n_a)), (bB, .inl (cI, 40, .inl n_b)), (bC, .inl (cI, 40, .inl n_c))] sz) := by
  refine Met.ofW (cc := b_N_work) (maxL := 4) (ret := none) (by decide) rfl ?_
  intro p e s m args below meth c s₁ B hml hv
  obtain ⟨rfl, hsz, hP, hK, hD0⟩ := hv
  have C0 : cx p s m _ meth c b_N_work none 4 R_N := ⟨B.exec, B.bytes, B.returns, hml, fun w hw => atoms_spec (ws := w_N_work) B.pre w (List.mem_cons_of_mem _ hw), findClass_of_methodNamed B.named, B.notSynchronized⟩
  subst hsz
  have hD := hD0.self (sz := s.heap.size)
  generalize hAe : va_A [(gN, .inr (4, [.ref bTh, .ref bXs, .ref bYs, .int n_kn, .int n_ct, .ref bA, .ref bB, .ref bC, .int n_rd, .ref bEd])), (bTh, .inl (cZ, 20, .inl n_th)), (bXs, .inl (cI, 20, .inl n_xs)), (bYs, .inl (cI, 20, .inl n_ys)), (bA, .inl (cI, 40, .inl n_a)), (bB, .inl (cI, 40, .inl n_b)), (bC, .inl (cI, 40, .inl n_c))] s.heap.size = A at hD ⊢
  have hA : ∀ q : Nat, s.heap.size ≤ q → A q := fun q h => by rw [← hAe]; exact Or.inr h
  have hl := lv_entry ([.ref gN]) (n := 4) (Nat.le_of_ble_eq_true rfl)
  rw [lg_entry_eq]
  generalize (lg_sl ([.ref gN]) ++ List.replicate (4 - (lg_sl ([.ref gN])).length) Slot.unset).toArray = ls at hl ⊢
  have hl : lv_has ls 4 [(0, .ref gN)] := hl
  exact t_N_work_e C0 hK hA n_kn n_ct n_a n_b n_c hf _ _ hP hD va_S.rf ls hl
set_option maxHeartbeats 4000000 in
set_option maxRecDepth 100000 in
theorem t_N_triangles_e {p : Program} {l : Launch} {e : Env} {s : State} {m : MethodId} {args : Array Value} {below : List Frame} {meth : Method} {c : Code} {dC : Nat → ClassId} {dI : Nat → Nat → Nat} {cI cZ : ClassId} {gN bTh bXs bYs bA bB bC bEd : Nat} {n_th : Nat → Int32} {n_xs : Nat → Int32} {n_ys : Nat → Int32} {n_rd : Int32} {rv : Int32} {n_kn' : Int32} {n_ct' : Int32} {n_a' : Nat → Int32} {n_b' : Nat → Int32} {n_c' : Nat → Int32} {A : Nat → Prop} (C0 : cx p s m args meth c b_N_triangles (some .int) 1 R_N) (hK : gK dC dI cI cZ s) (hA : ∀ q, s.heap.size ≤ q → A q) : ∀ (n_kn : Int32) (n_ct : Int32) (n_a : Nat → Int32) (n_b : Nat → Int32) (n_c : Nat → Int32), f_N_triangles n_th n_xs n_ys n_kn n_ct n_a n_b n_c = some (rv, n_kn', n_ct', n_a', n_b', n_c') → ∀ (H : Heap) (locs : List Loc), va_P (dC, dI) vwCl [(gN, .inr (4, [.ref bTh, .ref bXs, .ref bYs, .int n_kn, .int n_ct, .ref bA, .ref bB, .ref bC, .int n_rd, .ref bEd])), (bTh, .inl (cZ, 20, .inl n_th)), (bXs, .inl (cI, 20, .inl n_xs)), (bYs, .inl (cI, 20, .inl n_ys)), (bA, .inl (cI, 40, .inl n_a)), (bB, .inl (cI, 40, .inl n_b)), (bC, .inl (cI, 40, .inl n_c))] H → va_D A [(gN, .inr (4, [.ref bTh, .ref bXs, .ref bYs, .int n_kn, .int n_ct, .ref bA, .ref bB, .ref bC, .int n_rd, .ref bEd])), (bTh, .inl (cZ, 20, .inl n_th)), (bXs, .inl (cI, 20, .inl n_xs)), (bYs, .inl (cI, 20, .inl n_ys)), (bA, .inl (cI, 40, .inl n_a)), (bB, .inl (cI, 40, .inl n_b)), (bC, .inl (cI, 40, .inl n_c))] → va_S A s.heap H locs → ∀ (ls : Array Slot), lv_has ls 1 [(0, .ref gN)] → W p l e (headSpec w_N_triangles ({ frames := 5, cells := 0, slots := 0, locals := 143 } : Room)).room s m args below meth c H locs 0 0 (MQ below (QwI dC dI A [(gN, .inr (4, [.ref bTh, .ref bXs, .ref bYs, .int n_kn', .int n_ct', .ref bA, .ref bB, .ref bC, .int n_rd, .ref bEd])), (bTh, .inl (cZ, 20, .inl n_th)), (bXs, .inl (cI, 20, .inl n_xs)), (bYs, .inl (cI, 20, .inl n_ys)), (bA, .inl (cI, 40, .inl n_a')), (bB, .inl (cI, 40, .inl n_b')), (bC, .inl (cI, 40, .inl n_c'))] rv) args s 0 0 A) (F0 m 0 ls []) := by
  obtain ⟨hx, hb, hr, hml, hts, hown, hlocks⟩ := id C0
  intro n_kn n_ct n_a n_b n_c hf H locs hP hD hS ls hl
  refine lv_aload_n hx hb d_N_triangles_0 rfl (lv_at hl 0 rfl) ?_
  obtain ⟨⟨r1, r2, r3, r4, r5⟩, hv7, hf⟩ := o_b hf
  refine wc_v (wr := []) (w1 := [(gN, .inr (4, [.ref bTh, .ref bXs, .ref bYs, .int r1, .int r2, .ref bA, .ref bB, .ref bC, .int n_rd, .ref bEd])), (bTh, .inl (cZ, 20, .inl n_th)), (bXs, .inl (cI, 20, .inl n_xs)), (bYs, .inl (cI, 20, .inl n_ys)), (bA, .inl (cI, 40, .inl r3)), (bB, .inl (cI, 40, .inl r4)), (bC, .inl (cI, 40, .inl r5))]) (va_runV (As := []) (rest := []) ⟨hx, hb, hml, hown, hts⟩ (c_N_work l dC dI cI cZ gN bTh bXs bYs bA bB bC bEd n_th n_xs n_ys n_kn n_ct n_a n_b n_c n_rd r1 r2 r3 r4 r5 H.size hv7) (cwV 0 hts (gd_V bw_426 bw_428 bp_15 bw_5 bw_429) rfl rfl rfl ⟨rfl, hd_N_work⟩ ⟨Nat.le_of_ble_eq_true rfl, Nat.le_of_ble_eq_true rfl⟩) (pv_w (wc := [(gN, .inr (4, [.ref bTh, .ref bXs, .ref bYs, .int n_kn, .int n_ct, .ref bA, .ref bB, .ref bC, .int n_rd, .ref bEd])), (bTh, .inl (cZ, 20, .inl n_th)), (bXs, .inl (cI, 20, .inl n_xs)), (bYs, .inl (cI, 20, .inl n_ys)), (bA, .inl (cI, 40, .inl n_a)), (bB, .inl (cI, 40, .inl n_b)), (bC, .inl (cI, 40, .inl n_c))]) hK hP hD [0, 1, 2, 3, 4, 5, 6] rfl rfl (by decide) 0 (ci := 4) rfl rfl) rfl rfl hl.1 rfl (lv_room (Nat.le_of_ble_eq_true rfl)) d_N_triangles_1 ⟨Nat.zero_le _, Nat.zero_le _⟩) hP hD hS hA [0, 1, 2, 3, 4, 5, 6] [] rfl rfl (by decide) (by decide) (fun H locs hP hD hS => ?_)
  have hP : va_P (dC, dI) vwCl [(gN, .inr (4, [.ref bTh, .ref bXs, .ref bYs, .int r1, .int r2, .ref bA, .ref bB, .ref bC, .int n_rd, .ref bEd])), (bTh, .inl (cZ, 20, .inl n_th)), (bXs, .inl (cI, 20, .inl n_xs)), (bYs, .inl (cI, 20, .inl n_ys)), (bA, .inl (cI, 40, .inl r3)), (bB, .inl (cI, 40, .inl r4)), (bC, .inl (cI, 40, .inl r5))] H := hP.sub [0, 1, 2, 3, 4, 5, 6] rfl
  have hD : va_D A [(gN, .inr (4, [.ref bTh, .ref bXs, .ref bYs, .int r1, .int r2, .ref bA, .ref bB, .ref bC, .int n_rd, .ref bEd])), (bTh, .inl (cZ, 20, .inl n_th)), (bXs, .inl (cI, 20, .inl n_xs)), (bYs, .inl (cI, 20, .inl n_ys)), (bA, .inl (cI, 40, .inl r3)), (bB, .inl (cI, 40, .inl r4)), (bC, .inl (cI, 40, .inl r5))] := hD.sub [0, 1, 2, 3, 4, 5, 6] (by decide) rfl
  refine lv_aload_n hx hb d_N_triangles_4 rfl (lv_at hl 0 rfl) ?_
  refine va_get (D := (dC, dI)) (ci := 4) (v := .int r2) (C := R_N) (T := T_N) (N := 10) hx hb hts in_N hown hK.1 hP 0 rfl rfl 4 (by decide) (hts _ bw_361) (fun _ h9 => h9) rfl d_N_triangles_5 ?_
  cases hf
  exact wr_i hx hb hr hlocks hP hD hS d_N_triangles_8
set_option maxHeartbeats 4000000 in
set_option maxRecDepth 100000 in
theorem c_N_triangles (l : Launch) (dC : Nat → ClassId) (dI : Nat → Nat → Nat) (cI cZ : ClassId) (gN bTh bXs bYs bA bB bC bEd : Nat) (n_th : Nat → Int32) (n_xs : Nat → Int32) (n_ys : Nat → Int32) (n_kn : Int32) (n_ct : Int32) (n_a : Nat → Int32) (n_b : Nat → Int32) (n_c : Nat → Int32) (n_rd : Int32) (rv : Int32) (n_kn' : Int32) (n_ct' : Int32) (n_a' : Nat → Int32) (n_b' : Nat → Int32) (n_c' : Nat → Int32) (sz : Nat) (hf : f_N_triangles n_th n_xs n_ys n_kn n_ct n_a n_b n_c = some (rv, n_kn', n_ct', n_a', n_b', n_c')) : Met l y_N_triangles w_N_triangles ({ frames := 5, cells := 0, slots := 0, locals := 143 } : Room) (PcW dC dI cI cZ [.ref gN] [(gN, .inr (4, [.ref bTh, .ref bXs, .ref bYs, .int n_kn, .int n_ct, .ref bA, .ref bB, .ref bC, .int n_rd, .ref bEd])), (bTh, .inl (cZ, 20, .inl n_th)), (bXs, .inl (cI, 20, .inl n_xs)), (bYs, .inl (cI, 20, .inl n_ys)), (bA, .inl (cI, 40, .inl n_a)), (bB, .inl (cI, 40, .inl n_b)), (bC, .inl (cI, 40, .inl n_c))] sz) (QwI dC dI (va_A [(gN, .inr (4, [.ref bTh, .ref bXs, .ref bYs, .int n_kn, .int n_ct, .ref bA, .ref bB, .ref bC, .int n_rd, .ref bEd])), (bTh, .inl (cZ, 20, .inl n_th)), (bXs, .inl (cI, 20, .inl n_xs)), (bYs, .inl (cI, 20, .inl n_ys)), (bA, .inl (cI, 40, .inl n_a)), (bB, .inl (cI, 40, .inl n_b)), (bC, .inl (cI, 40, .inl n_c))] sz) [(gN, .inr (4, [.ref bTh, .ref bXs, .ref bYs, .int n_kn', .int n_ct', .ref bA, .ref bB, .ref bC, .int n_rd, .ref bEd])), (bTh, .inl (cZ, 20, .inl n_th)), (bXs, .inl (cI, 20, .inl n_xs)), (bYs, .inl (cI, 20, .inl n_ys)), (bA, .inl (cI, 40, .inl n_a')), (bB, .inl (cI, 40, .inl n_b')), (bC, .inl (cI, 40, .inl n_c'))] rv) 0 0 (va_A [(gN, .inr (4, [.ref bTh, .ref bXs, .ref bYs, .int n_kn, .int n_ct, .ref bA, .ref bB, .ref bC, .int n_rd, .ref bEd])), (bTh, .inl (cZ, 20, .inl n_th)), (bXs, .inl (cI, 20, .inl n_xs)), (bYs, .inl (cI, 20, .inl n_ys)), (bA, .inl (cI, 40, .inl n_a)), (bB, .inl (cI, 40, .inl n_b)), (bC, .inl (cI, 40, .inl n_c))] sz) := by
  refine Met.ofW (cc := b_N_triangles) (maxL := 1) (ret := (some .int)) (by decide) rfl ?_
  intro p e s m args below meth c s₁ B hml hv
  obtain ⟨rfl, hsz, hP, hK, hD0⟩ := hv
  have C0 : cx p s m _ meth c b_N_triangles (some .int) 1 R_N := ⟨B.exec, B.bytes, B.returns, hml, fun w hw => atoms_spec (ws := w_N_triangles) B.pre w (List.mem_cons_of_mem _ hw), findClass_of_methodNamed B.named, B.notSynchronized⟩
  subst hsz
  have hD := hD0.self (sz := s.heap.size)
  generalize hAe : va_A [(gN, .inr (4, [.ref bTh, .ref bXs, .ref bYs, .int n_kn, .int n_ct, .ref bA, .ref bB, .ref bC, .int n_rd, .ref bEd])), (bTh, .inl (cZ, 20, .inl n_th)), (bXs, .inl (cI, 20, .inl n_xs)), (bYs, .inl (cI, 20, .inl n_ys)), (bA, .inl (cI, 40, .inl n_a)), (bB, .inl (cI, 40, .inl n_b)), (bC, .inl (cI, 40, .inl n_c))] s.heap.size = A at hD ⊢
  have hA : ∀ q : Nat, s.heap.size ≤ q → A q := fun q h => by rw [← hAe]; exact Or.inr h
  have hl := lv_entry ([.ref gN]) (n := 1) (Nat.le_of_ble_eq_true rfl)
  rw [lg_entry_eq]
  generalize (lg_sl ([.ref gN]) ++ List.replicate (1 - (lg_sl ([.ref gN])).length) Slot.unset).toArray = ls at hl ⊢
  have hl : lv_has ls 1 [(0, .ref gN)] := hl
  exact t_N_triangles_e C0 hK hA n_kn n_ct n_a n_b n_c hf _ _ hP hD va_S.rf ls hl
set_option maxHeartbeats 4000000 in
set_option maxRecDepth 100000 in
theorem t_N_triangle_e {p : Program} {l : Launch} {e : Env} {s : State} {m : MethodId} {args : Array Value} {below : List Frame} {meth : Method} {c : Code} {dC : Nat → ClassId} {dI : Nat → Nat → Nat} {cI cZ : ClassId} {gN bTh bXs bYs bA bB bC bEd : Nat} {n_th : Nat → Int32} {n_xs : Nat → Int32} {n_ys : Nat → Int32} {n_rd : Int32} {rv : Int32} {n_kn' : Int32} {n_ct' : Int32} {n_a' : Nat → Int32} {n_b' : Nat → Int32} {n_c' : Nat → Int32} {A : Nat → Prop} (C0 : cx p s m args meth c b_N_triangle (some .int) 2 R_N) (hK : gK dC dI cI cZ s) (hA : ∀ q, s.heap.size ≤ q → A q) : ∀ (n_kn : Int32) (n_ct : Int32) (n_a : Nat → Int32) (n_b : Nat → Int32) (n_c : Nat → Int32) (x1 : Int32), f_N_triangle n_th n_xs n_ys n_kn n_ct n_a n_b n_c x1 = some (rv, n_kn', n_ct', n_a', n_b', n_c') → ∀ (H : Heap) (locs : List Loc), va_P (dC, dI) vwCl [(gN, .inr (4, [.ref bTh, .ref bXs, .ref bYs, .int n_kn, .int n_ct, .ref bA, .ref bB, .ref bC, .int n_rd, .ref bEd])), (bTh, .inl (cZ, 20, .inl n_th)), (bXs, .inl (cI, 20, .inl n_xs)), (bYs, .inl (cI, 20, .inl n_ys)), (bA, .inl (cI, 40, .inl n_a)), (bB, .inl (cI, 40, .inl n_b)), (bC, .inl (cI, 40, .inl n_c))] H → va_D A [(gN, .inr (4, [.ref bTh, .ref bXs, .ref bYs, .int n_kn, .int n_ct, .ref bA, .ref bB, .ref bC, .int n_rd, .ref bEd])), (bTh, .inl (cZ, 20, .inl n_th)), (bXs, .inl (cI, 20, .inl n_xs)), (bYs, .inl (cI, 20, .inl n_ys)), (bA, .inl (cI, 40, .inl n_a)), (bB, .inl (cI, 40, .inl n_b)), (bC, .inl (cI, 40, .inl n_c))] → va_S A s.heap H locs → ∀ (ls : Array Slot), lv_has ls 2 [(0, .ref gN), (1, .int x1)] → W p l e (headSpec w_N_triangle ({ frames := 5, cells := 0, slots := 0, locals := 143 } : Room)).room s m args below meth c H locs 0 0 (MQ below (QwI dC dI A [(gN, .inr (4, [.ref bTh, .ref bXs, .ref bYs, .int n_kn', .int n_ct', .ref bA, .ref bB, .ref bC, .int n_rd, .ref bEd])), (bTh, .inl (cZ, 20, .inl n_th)), (bXs, .inl (cI, 20, .inl n_xs)), (bYs, .inl (cI, 20, .inl n_ys)), (bA, .inl (cI, 40, .inl n_a')), (bB, .inl (cI, 40, .inl n_b')), (bC, .inl (cI, 40, .inl n_c'))] rv) args s 0 0 A) (F0 m 0 ls []) := by
  obtain ⟨hx, hb, hr, hml, hts, hown, hlocks⟩ := id C0
  intro n_kn n_ct n_a n_b n_c x1 hf H locs hP hD hS ls hl
  refine lv_aload_n hx hb d_N_triangle_0 rfl (lv_at hl 0 rfl) ?_
  obtain ⟨⟨r1, r2, r3, r4, r5⟩, hv7, hf⟩ := o_b hf
  refine wc_v (wr := []) (w1 := [(gN, .inr (4, [.ref bTh, .ref bXs, .ref bYs, .int r1, .int r2, .ref bA, .ref bB, .ref bC, .int n_rd, .ref bEd])), (bTh, .inl (cZ, 20, .inl n_th)), (bXs, .inl (cI, 20, .inl n_xs)), (bYs, .inl (cI, 20, .inl n_ys)), (bA, .inl (cI, 40, .inl r3)), (bB, .inl (cI, 40, .inl r4)), (bC, .inl (cI, 40, .inl r5))]) (va_runV (As := []) (rest := []) ⟨hx, hb, hml, hown, hts⟩ (c_N_work l dC dI cI cZ gN bTh bXs bYs bA bB bC bEd n_th n_xs n_ys n_kn n_ct n_a n_b n_c n_rd r1 r2 r3 r4 r5 H.size hv7) (cwV 0 hts (gd_V bw_426 bw_428 bp_15 bw_5 bw_429) rfl rfl rfl ⟨rfl, hd_N_work⟩ ⟨Nat.le_of_ble_eq_true rfl, Nat.le_of_ble_eq_true rfl⟩) (pv_w (wc := [(gN, .inr (4, [.ref bTh, .ref bXs, .ref bYs, .int n_kn, .int n_ct, .ref bA, .ref bB, .ref bC, .int n_rd, .ref bEd])), (bTh, .inl (cZ, 20, .inl n_th)), (bXs, .inl (cI, 20, .inl n_xs)), (bYs, .inl (cI, 20, .inl n_ys)), (bA, .inl (cI, 40, .inl n_a)), (bB, .inl (cI, 40, .inl n_b)), (bC, .inl (cI, 40, .inl n_c))]) hK hP hD [0, 1, 2, 3, 4, 5, 6] rfl rfl (by decide) 0 (ci := 4) rfl rfl) rfl rfl hl.1 rfl (lv_room (Nat.le_of_ble_eq_true rfl)) d_N_triangle_1 ⟨Nat.zero_le _, Nat.zero_le _⟩) hP hD hS hA [0, 1, 2, 3, 4, 5, 6] [] rfl rfl (by decide) (by decide) (fun H locs hP hD hS => ?_)
  have hP : va_P (dC, dI) vwCl [(gN, .inr (4, [.ref bTh, .ref bXs, .ref bYs, .int r1, .int r2, .ref bA, .ref bB, .ref bC, .int n_rd, .ref bEd])), (bTh, .inl (cZ, 20, .inl n_th)), (bXs, .inl (cI, 20, .inl n_xs)), (bYs, .inl (cI, 20, .inl n_ys)), (bA, .inl (cI, 40, .inl r3)), (bB, .inl (cI, 40, .inl r4)), (bC, .inl (cI, 40, .inl r5))] H := hP.sub [0, 1, 2, 3, 4, 5, 6] rfl
  have hD : va_D A [(gN, .inr (4, [.ref bTh, .ref bXs, .ref bYs, .int r1, .int r2, .ref bA, .ref bB, .ref bC, .int n_rd, .ref bEd])), (bTh, .inl (cZ, 20, .inl n_th)), (bXs, .inl (cI, 20, .inl n_xs)), (bYs, .inl (cI, 20, .inl n_ys)), (bA, .inl (cI, 40, .inl r3)), (bB, .inl (cI, 40, .inl r4)), (bC, .inl (cI, 40, .inl r5))] := hD.sub [0, 1, 2, 3, 4, 5, 6] (by decide) rfl
  refine lv_iload_n hx hb d_N_triangle_4 rfl (lv_at hl 1 rfl) ?_
  refine lv_if_lt (tgt := 16) hx hb d_N_triangle_5 (by decide) (fun hc8 => ?_) (fun hc8 => ?_)
  · have hf := o_t hf hc8
    refine lv_iconst (v := (-1 : Int32)) hx hb d_N_triangle_16 rfl ?_
    refine lv_goto (tgt := 47) hx hb d_N_triangle_17 (by decide) ?_
    cases hf
    exact wr_i hx hb hr hlocks hP hD hS d_N_triangle_47
  · have hf := o_f hf hc8
    refine lv_iload_n hx hb d_N_triangle_8 rfl (lv_at hl 1 rfl) ?_
    refine lv_aload_n hx hb d_N_triangle_9 rfl (lv_at hl 0 rfl) ?_
    refine va_get (D := (dC, dI)) (ci := 4) (v := .int r2) (C := R_N) (T := T_N) (N := 10) hx hb hts in_N hown hK.1 hP 0 rfl rfl 4 (by decide) (hts _ bw_361) (fun _ h9 => h9) rfl d_N_triangle_10 ?_
    refine lv_icmp_lt (tgt := 20) hx hb d_N_triangle_13 (by decide) (fun hc9 => ?_) (fun hc9 => ?_)
    · have hf := o_t hf hc9
      refine lv_aload_n hx hb d_N_triangle_20 rfl (lv_at hl 0 rfl) ?_
      refine va_get (D := (dC, dI)) (ci := 4) (v := .ref bA) (C := R_N) (T := T_N) (N := 10) hx hb hts in_N hown hK.1 hP 0 rfl rfl 5 (by decide) (hts _ bw_362) (fun _ h9 => h9) rfl d_N_triangle_21 ?_
      refine lv_iload_n hx hb d_N_triangle_24 rfl (lv_at hl 1 rfl) ?_
      obtain ⟨hi10, hf⟩ := o_i hf
      refine va_iald (cA := cI) (n := 40) (f := r3) hx hb hK.1 hP 4 0 rfl rfl hi10 d_N_triangle_25 ?_
      refine lv_bipush (v := (32 : Int32)) hx hb d_N_triangle_26 rfl ?_
      refine lv_aload_n hx hb d_N_triangle_28 rfl (lv_at hl 0 rfl) ?_
      refine va_get (D := (dC, dI)) (ci := 4) (v := .ref bB) (C := R_N) (T := T_N) (N := 10) hx hb hts in_N hown hK.1 hP 0 rfl rfl 6 (by decide) (hts _ bw_363) (fun _ h9 => h9) rfl d_N_triangle_29 ?_
      refine lv_iload_n hx hb d_N_triangle_32 rfl (lv_at hl 1 rfl) ?_
      obtain ⟨hi11, hf⟩ := o_i hf
      refine va_iald (cA := cI) (n := 40) (f := r4) hx hb hK.1 hP 5 0 rfl rfl hi11 d_N_triangle_33 ?_
      refine lv_imul hx hb d_N_triangle_34 ?_
      refine lv_iadd hx hb d_N_triangle_35 ?_
      refine lv_sipush (v := (1024 : Int32)) hx hb d_N_triangle_36 rfl ?_
      refine lv_aload_n hx hb d_N_triangle_39 rfl (lv_at hl 0 rfl) ?_
      refine va_get (D := (dC, dI)) (ci := 4) (v := .ref bC) (C := R_N) (T := T_N) (N := 10) hx hb hts in_N hown hK.1 hP 0 rfl rfl 7 (by decide) (hts _ bw_364) (fun _ h9 => h9) rfl d_N_triangle_40 ?_
      refine lv_iload_n hx hb d_N_triangle_43 rfl (lv_at hl 1 rfl) ?_
      obtain ⟨hi12, hf⟩ := o_i hf
      refine va_iald (cA := cI) (n := 40) (f := r5) hx hb hK.1 hP 6 0 rfl rfl hi12 d_N_triangle_44 ?_
      refine lv_imul hx hb d_N_triangle_45 ?_
      refine lv_iadd hx hb d_N_triangle_46 ?_
      cases hf
      exact wr_i hx hb hr hlocks hP hD hS d_N_triangle_47
    · have hf := o_f hf hc9
      refine lv_iconst (v := (-1 : Int32)) hx hb d_N_triangle_16 rfl ?_
      refine lv_goto (tgt := 47) hx hb d_N_triangle_17 (by decide) ?_
      cases hf
      exact wr_i hx hb hr hlocks hP hD hS d_N_triangle_47
set_option maxHeartbeats 4000000 in
set_option maxRecDepth 100000 in
theorem c_N_triangle (l : Launch) (dC : Nat → ClassId) (dI : Nat → Nat → Nat) (cI cZ : ClassId) (gN bTh bXs bYs bA bB bC bEd : Nat) (n_th : Nat → Int32) (n_xs : Nat → Int32) (n_ys : Nat → Int32) (n_kn : Int32) (n_ct : Int32) (n_a : Nat → Int32) (n_b : Nat → Int32) (n_c : Nat → Int32) (n_rd : Int32) (x1 : Int32) (rv : Int32) (n_kn' : Int32) (n_ct' : Int32) (n_a' : Nat → Int32) (n_b' : Nat → Int32) (n_c' : Nat → Int32) (sz : Nat) (hf : f_N_triangle n_th n_xs n_ys n_kn n_ct n_a n_b n_c x1 = some (rv, n_kn', n_ct', n_a', n_b', n_c')) : Met l y_N_triangle w_N_triangle ({ frames := 5, cells := 0, slots := 0, locals := 143 } : Room) (PcW dC dI cI cZ [.ref gN, .int x1] [(gN, .inr (4, [.ref bTh, .ref bXs, .ref bYs, .int n_kn, .int n_ct, .ref bA, .ref bB, .ref bC, .int n_rd, .ref bEd])), (bTh, .inl (cZ, 20, .inl n_th)), (bXs, .inl (cI, 20, .inl n_xs)), (bYs, .inl (cI, 20, .inl n_ys)), (bA, .inl (cI, 40, .inl n_a)), (bB, .inl (cI, 40, .inl n_b)), (bC, .inl (cI, 40, .inl n_c))] sz) (QwI dC dI (va_A [(gN, .inr (4, [.ref bTh, .ref bXs, .ref bYs, .int n_kn, .int n_ct, .ref bA, .ref bB, .ref bC, .int n_rd, .ref bEd])), (bTh, .inl (cZ, 20, .inl n_th)), (bXs, .inl (cI, 20, .inl n_xs)), (bYs, .inl (cI, 20, .inl n_ys)), (bA, .inl (cI, 40, .inl n_a)), (bB, .inl (cI, 40, .inl n_b)), (bC, .inl (cI, 40, .inl n_c))] sz) [(gN, .inr (4, [.ref bTh, .ref bXs, .ref bYs, .int n_kn', .int n_ct', .ref bA, .ref bB, .ref bC, .int n_rd, .ref bEd])), (bTh, .inl (cZ, 20, .inl n_th)), (bXs, .inl (cI, 20, .inl n_xs)), (bYs, .inl (cI, 20, .inl n_ys)), (bA, .inl (cI, 40, .inl n_a')), (bB, .inl (cI, 40, .inl n_b')), (bC, .inl (cI, 40, .inl n_c'))] rv) 0 0 (va_A [(gN, .inr (4, [.ref bTh, .ref bXs, .ref bYs, .int n_kn, .int n_ct, .ref bA, .ref bB, .ref bC, .int n_rd, .ref bEd])), (bTh, .inl (cZ, 20, .inl n_th)), (bXs, .inl (cI, 20, .inl n_xs)), (bYs, .inl (cI, 20, .inl n_ys)), (bA, .inl (cI, 40, .inl n_a)), (bB, .inl (cI, 40, .inl n_b)), (bC, .inl (cI, 40, .inl n_c))] sz) := by
  refine Met.ofW (cc := b_N_triangle) (maxL := 2) (ret := (some .int)) (by decide) rfl ?_
  intro p e s m args below meth c s₁ B hml hv
  obtain ⟨rfl, hsz, hP, hK, hD0⟩ := hv
  have C0 : cx p s m _ meth c b_N_triangle (some .int) 2 R_N := ⟨B.exec, B.bytes, B.returns, hml, fun w hw => atoms_spec (ws := w_N_triangle) B.pre w (List.mem_cons_of_mem _ hw), findClass_of_methodNamed B.named, B.notSynchronized⟩
  subst hsz
  have hD := hD0.self (sz := s.heap.size)
  generalize hAe : va_A [(gN, .inr (4, [.ref bTh, .ref bXs, .ref bYs, .int n_kn, .int n_ct, .ref bA, .ref bB, .ref bC, .int n_rd, .ref bEd])), (bTh, .inl (cZ, 20, .inl n_th)), (bXs, .inl (cI, 20, .inl n_xs)), (bYs, .inl (cI, 20, .inl n_ys)), (bA, .inl (cI, 40, .inl n_a)), (bB, .inl (cI, 40, .inl n_b)), (bC, .inl (cI, 40, .inl n_c))] s.heap.size = A at hD ⊢
  have hA : ∀ q : Nat, s.heap.size ≤ q → A q := fun q h => by rw [← hAe]; exact Or.inr h
  have hl := lv_entry ([.ref gN, .int x1]) (n := 2) (Nat.le_of_ble_eq_true rfl)
  rw [lg_entry_eq]
  generalize (lg_sl ([.ref gN, .int x1]) ++ List.replicate (2 - (lg_sl ([.ref gN, .int x1])).length) Slot.unset).toArray = ls at hl ⊢
  have hl : lv_has ls 2 [(0, .ref gN), (1, .int x1)] := hl
  exact t_N_triangle_e C0 hK hA n_kn n_ct n_a n_b n_c x1 hf _ _ hP hD va_S.rf ls hl
set_option maxHeartbeats 4000000 in
set_option maxRecDepth 100000 in
theorem c_N_has (l : Launch) (dC : Nat → ClassId) (dI : Nat → Nat → Nat) (cI cZ : ClassId) (gN bTh bXs bYs bA bB bC bEd : Nat) (n_kn : Int32) (n_ct : Int32) (n_a : Nat → Int32) (n_b : Nat → Int32) (n_c : Nat → Int32) (n_rd : Int32) (x1 : Int32) (x2 : Int32) (rv : Int32) (hf : f_N_has n_a n_b n_c x1 x2 = some rv) : Met l y_N_has w_N_has ({ frames := 0, cells := 0, slots := 0, locals := 0 } : Room) (PcR dC dI cI cZ [.ref gN, .int x1, .int x2] [(gN, .inr (4, [.ref bTh, .ref bXs, .ref bYs, .int n_kn, .int n_ct, .ref bA, .ref bB, .ref bC, .int n_rd, .ref bEd])), (bA, .inl (cI, 40, .inl n_a)), (bB, .inl (cI, 40, .inl n_b)), (bC, .inl (cI, 40, .inl n_c))]) (vp_Si (fun r => r = rv)) 0 0 (fun _ => False) := by
  refine Met.ofW (cc := b_N_has) (maxL := 3) (ret := (some .boolean)) (by decide) rfl ?_
  intro p e s m args below meth c s₁ B hml hv
  obtain ⟨rfl, hP, hK⟩ := hv
  have C0 : cx p s m _ meth c b_N_has (some .boolean) 3 R_N := ⟨B.exec, B.bytes, B.returns, hml, fun w hw => atoms_spec (ws := w_N_has) B.pre w (List.mem_cons_of_mem _ hw), findClass_of_methodNamed B.named, B.notSynchronized⟩
  obtain ⟨hx, hb, hr, hml, hts, hown, hlocks⟩ := id C0
  have hl := lv_entry ([.ref gN, .int x1, .int x2]) (n := 3) (Nat.le_of_ble_eq_true rfl)
  rw [lg_entry_eq]
  generalize (lg_sl ([.ref gN, .int x1, .int x2]) ++ List.replicate (3 - (lg_sl ([.ref gN, .int x1, .int x2])).length) Slot.unset).toArray = ls at hl ⊢
  have hl : lv_has ls 3 [(0, .ref gN), (1, .int x1), (2, .int x2)] := hl
  refine lv_aload_n hx hb d_N_has_0 rfl (lv_at hl 0 rfl) ?_
  refine va_get (D := (dC, dI)) (ci := 4) (v := .ref bA) (C := R_N) (T := T_N) (N := 10) hx hb hts in_N hown hK.1 hP 0 rfl rfl 5 (by decide) (hts _ bw_362) (fun _ h9 => h9) rfl d_N_has_1 ?_
  refine lv_iload_n hx hb d_N_has_4 rfl (lv_at hl 1 rfl) ?_
  obtain ⟨hi1, hf⟩ := o_i hf
  refine va_iald (cA := cI) (n := 40) (f := n_a) hx hb hK.1 hP 1 0 rfl rfl hi1 d_N_has_5 ?_
  refine lv_iload_n hx hb d_N_has_6 rfl (lv_at hl 2 rfl) ?_
  refine lv_icmp_eq (tgt := 30) hx hb d_N_has_7 (by decide) (fun hc2 => ?_) (fun hc2 => ?_)
  · have hf := o_t hf hc2
    refine lv_iconst (v := (1 : Int32)) hx hb d_N_has_30 rfl ?_
    refine lv_goto (tgt := 35) hx hb d_N_has_31 (by decide) ?_
    cases hf
    exact rr_z hx hb hr hlocks rfl d_N_has_35
  · have hf := o_f hf hc2
    refine lv_aload_n hx hb d_N_has_10 rfl (lv_at hl 0 rfl) ?_
    refine va_get (D := (dC, dI)) (ci := 4) (v := .ref bB) (C := R_N) (T := T_N) (N := 10) hx hb hts in_N hown hK.1 hP 0 rfl rfl 6 (by decide) (hts _ bw_363) (fun _ h9 => h9) rfl d_N_has_11 ?_
    refine lv_iload_n hx hb d_N_has_14 rfl (lv_at hl 1 rfl) ?_
    obtain ⟨hi3, hf⟩ := o_i hf
    refine va_iald (cA := cI) (n := 40) (f := n_b) hx hb hK.1 hP 2 0 rfl rfl hi3 d_N_has_15 ?_
    refine lv_iload_n hx hb d_N_has_16 rfl (lv_at hl 2 rfl) ?_
    refine lv_icmp_eq (tgt := 30) hx hb d_N_has_17 (by decide) (fun hc4 => ?_) (fun hc4 => ?_)
    · have hf := o_t hf hc4
      refine lv_iconst (v := (1 : Int32)) hx hb d_N_has_30 rfl ?_
      refine lv_goto (tgt := 35) hx hb d_N_has_31 (by decide) ?_
      cases hf
      exact rr_z hx hb hr hlocks rfl d_N_has_35
    · have hf := o_f hf hc4
      refine lv_aload_n hx hb d_N_has_20 rfl (lv_at hl 0 rfl) ?_
      refine va_get (D := (dC, dI)) (ci := 4) (v := .ref bC) (C := R_N) (T := T_N) (N := 10) hx hb hts in_N hown hK.1 hP 0 rfl rfl 7 (by decide) (hts _ bw_364) (fun _ h9 => h9) rfl d_N_has_21 ?_
      refine lv_iload_n hx hb d_N_has_24 rfl (lv_at hl 1 rfl) ?_
      obtain ⟨hi5, hf⟩ := o_i hf
      refine va_iald (cA := cI) (n := 40) (f := n_c) hx hb hK.1 hP 3 0 rfl rfl hi5 d_N_has_25 ?_
      refine lv_iload_n hx hb d_N_has_26 rfl (lv_at hl 2 rfl) ?_
      refine lv_icmp_ne (tgt := 34) hx hb d_N_has_27 (by decide) (fun hc6 => ?_) (fun hc6 => ?_)
      · have hf := o_f hf hc6
        refine lv_iconst (v := (0 : Int32)) hx hb d_N_has_34 rfl ?_
        cases hf
        exact rr_z hx hb hr hlocks rfl d_N_has_35
      · have hf := o_t hf hc6
        refine lv_iconst (v := (1 : Int32)) hx hb d_N_has_30 rfl ?_
        refine lv_goto (tgt := 35) hx hb d_N_has_31 (by decide) ?_
        cases hf
        exact rr_z hx hb hr hlocks rfl d_N_has_35
set_option maxHeartbeats 4000000 in
set_option maxRecDepth 100000 in
theorem t_N_number_L7 {p : Program} {l : Launch} {e : Env} {s : State} {m : MethodId} {args : Array Value} {below : List Frame} {meth : Method} {c : Code} {dC : Nat → ClassId} {dI : Nat → Nat → Nat} {cI cZ : ClassId} {gN bTh bXs bYs bA bB bC bEd : Nat} {n_th : Nat → Int32} {n_xs : Nat → Int32} {n_ys : Nat → Int32} {n_rd : Int32} {rv : Int32} {n_kn' : Int32} {n_ct' : Int32} {n_a' : Nat → Int32} {n_b' : Nat → Int32} {n_c' : Nat → Int32} {A : Nat → Prop} (C0 : cx p s m args meth c b_N_number (some .int) 5 R_N) (hK : gK dC dI cI cZ s) (hA : ∀ q, s.heap.size ≤ q → A q) : ∀ (n : Nat) (n_kn : Int32) (n_ct : Int32) (n_a : Nat → Int32) (n_b : Nat → Int32) (n_c : Nat → Int32) (x1 : Int32) (x2 : Int32) (x3 : Int32) (x4 : Int32), f_N_number_L7 n_th n_xs n_ys n n_kn n_ct n_a n_b n_c x1 x2 x3 x4 = some (rv, n_kn', n_ct', n_a', n_b', n_c') → ∀ (H : Heap) (locs : List Loc), va_P (dC, dI) vwCl [(gN, .inr (4, [.ref bTh, .ref bXs, .ref bYs, .int n_kn, .int n_ct, .ref bA, .ref bB, .ref bC, .int n_rd, .ref bEd])), (bTh, .inl (cZ, 20, .inl n_th)), (bXs, .inl (cI, 20, .inl n_xs)), (bYs, .inl (cI, 20, .inl n_ys)), (bA, .inl (cI, 40, .inl n_a)), (bB, .inl (cI, 40, .inl n_b)), (bC, .inl (cI, 40, .inl n_c))] H → va_D A [(gN, .inr (4, [.ref bTh, .ref bXs, .ref bYs, .int n_kn, .int n_ct, .ref bA, .ref bB, .ref bC, .int n_rd, .ref bEd])), (bTh, .inl (cZ, 20, .inl n_th)), (bXs, .inl (cI, 20, .inl n_xs)), (bYs, .inl (cI, 20, .inl n_ys)), (bA, .inl (cI, 40, .inl n_a)), (bB, .inl (cI, 40, .inl n_b)), (bC, .inl (cI, 40, .inl n_c))] → va_S A s.heap H locs → ∀ (ls : Array Slot), lv_has ls 5 [(0, .ref gN), (1, .int x1), (2, .int x2), (3, .int x3), (4, .int x4)] → W p l e (headSpec w_N_number ({ frames := 5, cells := 0, slots := 0, locals := 143 } : Room)).room s m args below meth c H locs 0 0 (MQ below (QwI dC dI A [(gN, .inr (4, [.ref bTh, .ref bXs, .ref bYs, .int n_kn', .int n_ct', .ref bA, .ref bB, .ref bC, .int n_rd, .ref bEd])), (bTh, .inl (cZ, 20, .inl n_th)), (bXs, .inl (cI, 20, .inl n_xs)), (bYs, .inl (cI, 20, .inl n_ys)), (bA, .inl (cI, 40, .inl n_a')), (bB, .inl (cI, 40, .inl n_b')), (bC, .inl (cI, 40, .inl n_c'))] rv) args s 0 0 A) (F0 m 7 ls []) := by
  obtain ⟨hx, hb, hr, hml, hts, hown, hlocks⟩ := id C0
  intro n
  induction n with
  | zero =>
    intro n_kn n_ct n_a n_b n_c x1 x2 x3 x4 hf
    exact (o_n hf).elim
  | succ n ih =>
    intro n_kn n_ct n_a n_b n_c x1 x2 x3 x4 hf H locs hP hD hS ls hl
    refine lv_iload hx hb d_N_number_7 (lv_at hl 4 rfl) ?_
    refine lv_aload_n hx hb d_N_number_9 rfl (lv_at hl 0 rfl) ?_
    refine va_get (D := (dC, dI)) (ci := 4) (v := .int n_ct) (C := R_N) (T := T_N) (N := 10) hx hb hts in_N hown hK.1 hP 0 rfl rfl 4 (by decide) (hts _ bw_361) (fun _ h9 => h9) rfl d_N_number_10 ?_
    refine lv_icmp_ge (tgt := 70) hx hb d_N_number_13 (by decide) (fun hc1 => ?_) (fun hc1 => ?_)
    · have hf := o_t hf hc1
      refine lv_iconst (v := (-1 : Int32)) hx hb d_N_number_70 rfl ?_
      cases hf
      exact wr_i hx hb hr hlocks hP hD hS d_N_number_71
    · have hf := o_f hf hc1
      refine lv_iload_n hx hb d_N_number_16 rfl (lv_at hl 1 rfl) ?_
      refine lv_iload_n hx hb d_N_number_17 rfl (lv_at hl 2 rfl) ?_
      refine lv_icmp_eq (tgt := 64) hx hb d_N_number_18 (by decide) (fun hc2 => ?_) (fun hc2 => ?_)
      · have hf := o_t hf hc2
        refine lv_iinc (v := (x4 + 1)) (lv' := [(4, .int (x4 + 1)), (0, .ref gN), (1, .int x1), (2, .int x2), (3, .int x3)]) hx hb d_N_number_64 hl (k := 4) rfl rfl (by decide) rfl (fun ls hl => ?_)
        refine lv_goto (tgt := 7) hx hb d_N_number_67 (by decide) ?_
        exact ih n_kn n_ct n_a n_b n_c x1 x2 x3 (x4 + 1) hf _ _ hP hD hS ls (lv_sub hl [1, 2, 3, 4, 0] rfl)
      · have hf := o_f hf hc2
        refine lv_iload_n hx hb d_N_number_21 rfl (lv_at hl 2 rfl) ?_
        refine lv_iload_n hx hb d_N_number_22 rfl (lv_at hl 3 rfl) ?_
        refine lv_icmp_eq (tgt := 64) hx hb d_N_number_23 (by decide) (fun hc3 => ?_) (fun hc3 => ?_)
        · have hf := o_t hf hc3
          refine lv_iinc (v := (x4 + 1)) (lv' := [(4, .int (x4 + 1)), (0, .ref gN), (1, .int x1), (2, .int x2), (3, .int x3)]) hx hb d_N_number_64 hl (k := 4) rfl rfl (by decide) rfl (fun ls hl => ?_)
          refine lv_goto (tgt := 7) hx hb d_N_number_67 (by decide) ?_
          exact ih n_kn n_ct n_a n_b n_c x1 x2 x3 (x4 + 1) hf _ _ hP hD hS ls (lv_sub hl [1, 2, 3, 4, 0] rfl)
        · have hf := o_f hf hc3
          refine lv_iload_n hx hb d_N_number_26 rfl (lv_at hl 1 rfl) ?_
          refine lv_iload_n hx hb d_N_number_27 rfl (lv_at hl 3 rfl) ?_
          refine lv_icmp_eq (tgt := 64) hx hb d_N_number_28 (by decide) (fun hc4 => ?_) (fun hc4 => ?_)
          · have hf := o_t hf hc4
            refine lv_iinc (v := (x4 + 1)) (lv' := [(4, .int (x4 + 1)), (0, .ref gN), (1, .int x1), (2, .int x2), (3, .int x3)]) hx hb d_N_number_64 hl (k := 4) rfl rfl (by decide) rfl (fun ls hl => ?_)
            refine lv_goto (tgt := 7) hx hb d_N_number_67 (by decide) ?_
            exact ih n_kn n_ct n_a n_b n_c x1 x2 x3 (x4 + 1) hf _ _ hP hD hS ls (lv_sub hl [1, 2, 3, 4, 0] rfl)
          · have hf := o_f hf hc4
            refine lv_aload_n hx hb d_N_number_31 rfl (lv_at hl 0 rfl) ?_
            refine lv_iload hx hb d_N_number_32 (lv_at hl 4 rfl) ?_
            refine lv_iload_n hx hb d_N_number_34 rfl (lv_at hl 1 rfl) ?_
            obtain ⟨r5, hv7, hf⟩ := o_b hf
            refine rc_i (va_runV (As := [.int x4, .int x1]) (rest := []) ⟨hx, hb, hml, hown, hts⟩ (c_N_has l dC dI cI cZ gN bTh bXs bYs bA bB bC bEd n_kn n_ct n_a n_b n_c n_rd x4 x1 r5 hv7) (cwV 2 hts (gd_V bw_465 bw_467 bp_21 bw_5 bw_468) rfl rfl rfl ⟨rfl, hd_N_has⟩ ⟨Nat.le_of_ble_eq_true rfl, Nat.le_of_ble_eq_true rfl⟩) (pv_r (wc := [(gN, .inr (4, [.ref bTh, .ref bXs, .ref bYs, .int n_kn, .int n_ct, .ref bA, .ref bB, .ref bC, .int n_rd, .ref bEd])), (bA, .inl (cI, 40, .inl n_a)), (bB, .inl (cI, 40, .inl n_b)), (bC, .inl (cI, 40, .inl n_c))]) hK hP [0, 4, 5, 6] rfl 0 (ci := 4) rfl rfl) rfl rfl hl.1 rfl (lv_room (Nat.le_of_ble_eq_true rfl)) d_N_number_35 ⟨Nat.zero_le _, Nat.zero_le _⟩) ?_
            refine lv_if_eq (tgt := 64) hx hb d_N_number_38 (by decide) (fun hc8 => ?_) (fun hc8 => ?_)
            · have hf := o_t hf hc8
              refine lv_iinc (v := (x4 + 1)) (lv' := [(4, .int (x4 + 1)), (0, .ref gN), (1, .int x1), (2, .int x2), (3, .int x3)]) hx hb d_N_number_64 hl (k := 4) rfl rfl (by decide) rfl (fun ls hl => ?_)
              refine lv_goto (tgt := 7) hx hb d_N_number_67 (by decide) ?_
              exact ih n_kn n_ct n_a n_b n_c x1 x2 x3 (x4 + 1) hf _ _ hP hD hS ls (lv_sub hl [1, 2, 3, 4, 0] rfl)
            · have hf := o_f hf hc8
              refine lv_aload_n hx hb d_N_number_41 rfl (lv_at hl 0 rfl) ?_
              refine lv_iload hx hb d_N_number_42 (lv_at hl 4 rfl) ?_
              refine lv_iload_n hx hb d_N_number_44 rfl (lv_at hl 2 rfl) ?_
              obtain ⟨r9, hv11, hf⟩ := o_b hf
              refine rc_i (va_runV (As := [.int x4, .int x2]) (rest := []) ⟨hx, hb, hml, hown, hts⟩ (c_N_has l dC dI cI cZ gN bTh bXs bYs bA bB bC bEd n_kn n_ct n_a n_b n_c n_rd x4 x2 r9 hv11) (cwV 2 hts (gd_V bw_465 bw_467 bp_21 bw_5 bw_468) rfl rfl rfl ⟨rfl, hd_N_has⟩ ⟨Nat.le_of_ble_eq_true rfl, Nat.le_of_ble_eq_true rfl⟩) (pv_r (wc := [(gN, .inr (4, [.ref bTh, .ref bXs, .ref bYs, .int n_kn, .int n_ct, .ref bA, .ref bB, .ref bC, .int n_rd, .ref bEd])), (bA, .inl (cI, 40, .inl n_a)), (bB, .inl (cI, 40, .inl n_b)), (bC, .inl (cI, 40, .inl n_c))]) hK hP [0, 4, 5, 6] rfl 0 (ci := 4) rfl rfl) rfl rfl hl.1 rfl (lv_room (Nat.le_of_ble_eq_true rfl)) d_N_number_45 ⟨Nat.zero_le _, Nat.zero_le _⟩) ?_
              refine lv_if_eq (tgt := 64) hx hb d_N_number_48 (by decide) (fun hc12 => ?_) (fun hc12 => ?_)
              · have hf := o_t hf hc12
                refine lv_iinc (v := (x4 + 1)) (lv' := [(4, .int (x4 + 1)), (0, .ref gN), (1, .int x1), (2, .int x2), (3, .int x3)]) hx hb d_N_number_64 hl (k := 4) rfl rfl (by decide) rfl (fun ls hl => ?_)
                refine lv_goto (tgt := 7) hx hb d_N_number_67 (by decide) ?_
                exact ih n_kn n_ct n_a n_b n_c x1 x2 x3 (x4 + 1) hf _ _ hP hD hS ls (lv_sub hl [1, 2, 3, 4, 0] rfl)
              · have hf := o_f hf hc12
                refine lv_aload_n hx hb d_N_number_51 rfl (lv_at hl 0 rfl) ?_
                refine lv_iload hx hb d_N_number_52 (lv_at hl 4 rfl) ?_
                refine lv_iload_n hx hb d_N_number_54 rfl (lv_at hl 3 rfl) ?_
                obtain ⟨r13, hv15, hf⟩ := o_b hf
                refine rc_i (va_runV (As := [.int x4, .int x3]) (rest := []) ⟨hx, hb, hml, hown, hts⟩ (c_N_has l dC dI cI cZ gN bTh bXs bYs bA bB bC bEd n_kn n_ct n_a n_b n_c n_rd x4 x3 r13 hv15) (cwV 2 hts (gd_V bw_465 bw_467 bp_21 bw_5 bw_468) rfl rfl rfl ⟨rfl, hd_N_has⟩ ⟨Nat.le_of_ble_eq_true rfl, Nat.le_of_ble_eq_true rfl⟩) (pv_r (wc := [(gN, .inr (4, [.ref bTh, .ref bXs, .ref bYs, .int n_kn, .int n_ct, .ref bA, .ref bB, .ref bC, .int n_rd, .ref bEd])), (bA, .inl (cI, 40, .inl n_a)), (bB, .inl (cI, 40, .inl n_b)), (bC, .inl (cI, 40, .inl n_c))]) hK hP [0, 4, 5, 6] rfl 0 (ci := 4) rfl rfl) rfl rfl hl.1 rfl (lv_room (Nat.le_of_ble_eq_true rfl)) d_N_number_55 ⟨Nat.zero_le _, Nat.zero_le _⟩) ?_
                refine lv_if_eq (tgt := 64) hx hb d_N_number_58 (by decide) (fun hc16 => ?_) (fun hc16 => ?_)
                · have hf := o_t hf hc16
                  refine lv_iinc (v := (x4 + 1)) (lv' := [(4, .int (x4 + 1)), (0, .ref gN), (1, .int x1), (2, .int x2), (3, .int x3)]) hx hb d_N_number_64 hl (k := 4) rfl rfl (by decide) rfl (fun ls hl => ?_)
                  refine lv_goto (tgt := 7) hx hb d_N_number_67 (by decide) ?_
                  exact ih n_kn n_ct n_a n_b n_c x1 x2 x3 (x4 + 1) hf _ _ hP hD hS ls (lv_sub hl [1, 2, 3, 4, 0] rfl)
                · have hf := o_f hf hc16
                  refine lv_iload hx hb d_N_number_61 (lv_at hl 4 rfl) ?_
                  cases hf
                  exact wr_i hx hb hr hlocks hP hD hS d_N_number_63
set_option maxHeartbeats 4000000 in
set_option maxRecDepth 100000 in
theorem t_N_number_e {p : Program} {l : Launch} {e : Env} {s : State} {m : MethodId} {args : Array Value} {below : List Frame} {meth : Method} {c : Code} {dC : Nat → ClassId} {dI : Nat → Nat → Nat} {cI cZ : ClassId} {gN bTh bXs bYs bA bB bC bEd : Nat} {n_th : Nat → Int32} {n_xs : Nat → Int32} {n_ys : Nat → Int32} {n_rd : Int32} {rv : Int32} {n_kn' : Int32} {n_ct' : Int32} {n_a' : Nat → Int32} {n_b' : Nat → Int32} {n_c' : Nat → Int32} {A : Nat → Prop} (C0 : cx p s m args meth c b_N_number (some .int) 5 R_N) (hK : gK dC dI cI cZ s) (hA : ∀ q, s.heap.size ≤ q → A q) : ∀ (n_kn : Int32) (n_ct : Int32) (n_a : Nat → Int32) (n_b : Nat → Int32) (n_c : Nat → Int32) (x1 : Int32) (x2 : Int32) (x3 : Int32), f_N_number n_th n_xs n_ys n_kn n_ct n_a n_b n_c x1 x2 x3 = some (rv, n_kn', n_ct', n_a', n_b', n_c') → ∀ (H : Heap) (locs : List Loc), va_P (dC, dI) vwCl [(gN, .inr (4, [.ref bTh, .ref bXs, .ref bYs, .int n_kn, .int n_ct, .ref bA, .ref bB, .ref bC, .int n_rd, .ref bEd])), (bTh, .inl (cZ, 20, .inl n_th)), (bXs, .inl (cI, 20, .inl n_xs)), (bYs, .inl (cI, 20, .inl n_ys)), (bA, .inl (cI, 40, .inl n_a)), (bB, .inl (cI, 40, .inl n_b)), (bC, .inl (cI, 40, .inl n_c))] H → va_D A [(gN, .inr (4, [.ref bTh, .ref bXs, .ref bYs, .int n_kn, .int n_ct, .ref bA, .ref bB, .ref bC, .int n_rd, .ref bEd])), (bTh, .inl (cZ, 20, .inl n_th)), (bXs, .inl (cI, 20, .inl n_xs)), (bYs, .inl (cI, 20, .inl n_ys)), (bA, .inl (cI, 40, .inl n_a)), (bB, .inl (cI, 40, .inl n_b)), (bC, .inl (cI, 40, .inl n_c))] → va_S A s.heap H locs → ∀ (ls : Array Slot), lv_has ls 5 [(0, .ref gN), (1, .int x1), (2, .int x2), (3, .int x3)] → W p l e (headSpec w_N_number ({ frames := 5, cells := 0, slots := 0, locals := 143 } : Room)).room s m args below meth c H locs 0 0 (MQ below (QwI dC dI A [(gN, .inr (4, [.ref bTh, .ref bXs, .ref bYs, .int n_kn', .int n_ct', .ref bA, .ref bB, .ref bC, .int n_rd, .ref bEd])), (bTh, .inl (cZ, 20, .inl n_th)), (bXs, .inl (cI, 20, .inl n_xs)), (bYs, .inl (cI, 20, .inl n_ys)), (bA, .inl (cI, 40, .inl n_a')), (bB, .inl (cI, 40, .inl n_b')), (bC, .inl (cI, 40, .inl n_c'))] rv) args s 0 0 A) (F0 m 0 ls []) := by
  obtain ⟨hx, hb, hr, hml, hts, hown, hlocks⟩ := id C0
  intro n_kn n_ct n_a n_b n_c x1 x2 x3 hf H locs hP hD hS ls hl
  refine lv_aload_n hx hb d_N_number_0 rfl (lv_at hl 0 rfl) ?_
  obtain ⟨⟨r17, r18, r19, r20, r21⟩, hv23, hf⟩ := o_b hf
  refine wc_v (wr := []) (w1 := [(gN, .inr (4, [.ref bTh, .ref bXs, .ref bYs, .int r17, .int r18, .ref bA, .ref bB, .ref bC, .int n_rd, .ref bEd])), (bTh, .inl (cZ, 20, .inl n_th)), (bXs, .inl (cI, 20, .inl n_xs)), (bYs, .inl (cI, 20, .inl n_ys)), (bA, .inl (cI, 40, .inl r19)), (bB, .inl (cI, 40, .inl r20)), (bC, .inl (cI, 40, .inl r21))]) (va_runV (As := []) (rest := []) ⟨hx, hb, hml, hown, hts⟩ (c_N_work l dC dI cI cZ gN bTh bXs bYs bA bB bC bEd n_th n_xs n_ys n_kn n_ct n_a n_b n_c n_rd r17 r18 r19 r20 r21 H.size hv23) (cwV 0 hts (gd_V bw_426 bw_428 bp_15 bw_5 bw_429) rfl rfl rfl ⟨rfl, hd_N_work⟩ ⟨Nat.le_of_ble_eq_true rfl, Nat.le_of_ble_eq_true rfl⟩) (pv_w (wc := [(gN, .inr (4, [.ref bTh, .ref bXs, .ref bYs, .int n_kn, .int n_ct, .ref bA, .ref bB, .ref bC, .int n_rd, .ref bEd])), (bTh, .inl (cZ, 20, .inl n_th)), (bXs, .inl (cI, 20, .inl n_xs)), (bYs, .inl (cI, 20, .inl n_ys)), (bA, .inl (cI, 40, .inl n_a)), (bB, .inl (cI, 40, .inl n_b)), (bC, .inl (cI, 40, .inl n_c))]) hK hP hD [0, 1, 2, 3, 4, 5, 6] rfl rfl (by decide) 0 (ci := 4) rfl rfl) rfl rfl hl.1 rfl (lv_room (Nat.le_of_ble_eq_true rfl)) d_N_number_1 ⟨Nat.zero_le _, Nat.zero_le _⟩) hP hD hS hA [0, 1, 2, 3, 4, 5, 6] [] rfl rfl (by decide) (by decide) (fun H locs hP hD hS => ?_)
  have hP : va_P (dC, dI) vwCl [(gN, .inr (4, [.ref bTh, .ref bXs, .ref bYs, .int r17, .int r18, .ref bA, .ref bB, .ref bC, .int n_rd, .ref bEd])), (bTh, .inl (cZ, 20, .inl n_th)), (bXs, .inl (cI, 20, .inl n_xs)), (bYs, .inl (cI, 20, .inl n_ys)), (bA, .inl (cI, 40, .inl r19)), (bB, .inl (cI, 40, .inl r20)), (bC, .inl (cI, 40, .inl r21))] H := hP.sub [0, 1, 2, 3, 4, 5, 6] rfl
  have hD : va_D A [(gN, .inr (4, [.ref bTh, .ref bXs, .ref bYs, .int r17, .int r18, .ref bA, .ref bB, .ref bC, .int n_rd, .ref bEd])), (bTh, .inl (cZ, 20, .inl n_th)), (bXs, .inl (cI, 20, .inl n_xs)), (bYs, .inl (cI, 20, .inl n_ys)), (bA, .inl (cI, 40, .inl r19)), (bB, .inl (cI, 40, .inl r20)), (bC, .inl (cI, 40, .inl r21))] := hD.sub [0, 1, 2, 3, 4, 5, 6] (by decide) rfl
  refine lv_iconst (v := (0 : Int32)) hx hb d_N_number_4 rfl ?_
  refine lv_istore (lv' := [(4, .int (0 : Int32)), (0, .ref gN), (1, .int x1), (2, .int x2), (3, .int x3)]) hx hb d_N_number_5 hl (by decide) rfl (fun ls hl => ?_)
  exact t_N_number_L7 C0 hK hA  600 r17 r18 r19 r20 r21 x1 x2 x3 (0 : Int32) hf _ _ hP hD hS ls (lv_sub hl [1, 2, 3, 4, 0] rfl)
set_option maxHeartbeats 4000000 in
set_option maxRecDepth 100000 in
theorem c_N_number (l : Launch) (dC : Nat → ClassId) (dI : Nat → Nat → Nat) (cI cZ : ClassId) (gN bTh bXs bYs bA bB bC bEd : Nat) (n_th : Nat → Int32) (n_xs : Nat → Int32) (n_ys : Nat → Int32) (n_kn : Int32) (n_ct : Int32) (n_a : Nat → Int32) (n_b : Nat → Int32) (n_c : Nat → Int32) (n_rd : Int32) (x1 : Int32) (x2 : Int32) (x3 : Int32) (rv : Int32) (n_kn' : Int32) (n_ct' : Int32) (n_a' : Nat → Int32) (n_b' : Nat → Int32) (n_c' : Nat → Int32) (sz : Nat) (hf : f_N_number n_th n_xs n_ys n_kn n_ct n_a n_b n_c x1 x2 x3 = some (rv, n_kn', n_ct', n_a', n_b', n_c')) : Met l y_N_number w_N_number ({ frames := 5, cells := 0, slots := 0, locals := 143 } : Room) (PcW dC dI cI cZ [.ref gN, .int x1, .int x2, .int x3] [(gN, .inr (4, [.ref bTh, .ref bXs, .ref bYs, .int n_kn, .int n_ct, .ref bA, .ref bB, .ref bC, .int n_rd, .ref bEd])), (bTh, .inl (cZ, 20, .inl n_th)), (bXs, .inl (cI, 20, .inl n_xs)), (bYs, .inl (cI, 20, .inl n_ys)), (bA, .inl (cI, 40, .inl n_a)), (bB, .inl (cI, 40, .inl n_b)), (bC, .inl (cI, 40, .inl n_c))] sz) (QwI dC dI (va_A [(gN, .inr (4, [.ref bTh, .ref bXs, .ref bYs, .int n_kn, .int n_ct, .ref bA, .ref bB, .ref bC, .int n_rd, .ref bEd])), (bTh, .inl (cZ, 20, .inl n_th)), (bXs, .inl (cI, 20, .inl n_xs)), (bYs, .inl (cI, 20, .inl n_ys)), (bA, .inl (cI, 40, .inl n_a)), (bB, .inl (cI, 40, .inl n_b)), (bC, .inl (cI, 40, .inl n_c))] sz) [(gN, .inr (4, [.ref bTh, .ref bXs, .ref bYs, .int n_kn', .int n_ct', .ref bA, .ref bB, .ref bC, .int n_rd, .ref bEd])), (bTh, .inl (cZ, 20, .inl n_th)), (bXs, .inl (cI, 20, .inl n_xs)), (bYs, .inl (cI, 20, .inl n_ys)), (bA, .inl (cI, 40, .inl n_a')), (bB, .inl (cI, 40, .inl n_b')), (bC, .inl (cI, 40, .inl n_c'))] rv) 0 0 (va_A [(gN, .inr (4, [.ref bTh, .ref bXs, .ref bYs, .int n_kn, .int n_ct, .ref bA, .ref bB, .ref bC, .int n_rd, .ref bEd])), (bTh, .inl (cZ, 20, .inl n_th)), (bXs, .inl (cI, 20, .inl n_xs)), (bYs, .inl (cI, 20, .inl n_ys)), (bA, .inl (cI, 40, .inl n_a)), (bB, .inl (cI, 40, .inl n_b)), (bC, .inl (cI, 40, .inl n_c))] sz) := by
  refine Met.ofW (cc := b_N_number) (maxL := 5) (ret := (some .int)) (by decide) rfl ?_
  intro p e s m args below meth c s₁ B hml hv
  obtain ⟨rfl, hsz, hP, hK, hD0⟩ := hv
  have C0 : cx p s m _ meth c b_N_number (some .int) 5 R_N := ⟨B.exec, B.bytes, B.returns, hml, fun w hw => atoms_spec (ws := w_N_number) B.pre w (List.mem_cons_of_mem _ hw), findClass_of_methodNamed B.named, B.notSynchronized⟩
  subst hsz
  have hD := hD0.self (sz := s.heap.size)
  generalize hAe : va_A [(gN, .inr (4, [.ref bTh, .ref bXs, .ref bYs, .int n_kn, .int n_ct, .ref bA, .ref bB, .ref bC, .int n_rd, .ref bEd])), (bTh, .inl (cZ, 20, .inl n_th)), (bXs, .inl (cI, 20, .inl n_xs)), (bYs, .inl (cI, 20, .inl n_ys)), (bA, .inl (cI, 40, .inl n_a)), (bB, .inl (cI, 40, .inl n_b)), (bC, .inl (cI, 40, .inl n_c))] s.heap.size = A at hD ⊢
  have hA : ∀ q : Nat, s.heap.size ≤ q → A q := fun q h => by rw [← hAe]; exact Or.inr h
  have hl := lv_entry ([.ref gN, .int x1, .int x2, .int x3]) (n := 5) (Nat.le_of_ble_eq_true rfl)
  rw [lg_entry_eq]
  generalize (lg_sl ([.ref gN, .int x1, .int x2, .int x3]) ++ List.replicate (5 - (lg_sl ([.ref gN, .int x1, .int x2, .int x3])).length) Slot.unset).toArray = ls at hl ⊢
  have hl : lv_has ls 5 [(0, .ref gN), (1, .int x1), (2, .int x2), (3, .int x3)] := hl
  exact t_N_number_e C0 hK hA n_kn n_ct n_a n_b n_c x1 x2 x3 hf _ _ hP hD va_S.rf ls hl
set_option maxHeartbeats 4000000 in
set_option maxRecDepth 100000 in
theorem t_N_across_L99 {p : Program} {l : Launch} {e : Env} {s : State} {m : MethodId} {args : Array Value} {below : List Frame} {meth : Method} {c : Code} {dC : Nat → ClassId} {dI : Nat → Nat → Nat} {cI cZ : ClassId} {gN bTh bXs bYs bA bB bC bEd : Nat} {n_th : Nat → Int32} {n_xs : Nat → Int32} {n_ys : Nat → Int32} {n_rd : Int32} {rv : Int32} {n_kn' : Int32} {n_ct' : Int32} {n_a' : Nat → Int32} {n_b' : Nat → Int32} {n_c' : Nat → Int32} {A : Nat → Prop} (C0 : cx p s m args meth c b_N_across (some .int) 6 R_N) (hK : gK dC dI cI cZ s) (hA : ∀ q, s.heap.size ≤ q → A q) : ∀ (n : Nat) (n_kn : Int32) (n_ct : Int32) (n_a : Nat → Int32) (n_b : Nat → Int32) (n_c : Nat → Int32) (x1 : Int32) (x3 : Int32) (x4 : Int32) (x5 : Int32), f_N_across_L99 n_th n_xs n_ys n n_kn n_ct n_a n_b n_c x1 x3 x4 x5 = some (rv, n_kn', n_ct', n_a', n_b', n_c') → ∀ (H : Heap) (locs : List Loc), va_P (dC, dI) vwCl [(gN, .inr (4, [.ref bTh, .ref bXs, .ref bYs, .int n_kn, .int n_ct, .ref bA, .ref bB, .ref bC, .int n_rd, .ref bEd])), (bTh, .inl (cZ, 20, .inl n_th)), (bXs, .inl (cI, 20, .inl n_xs)), (bYs, .inl (cI, 20, .inl n_ys)), (bA, .inl (cI, 40, .inl n_a)), (bB, .inl (cI, 40, .inl n_b)), (bC, .inl (cI, 40, .inl n_c))] H → va_D A [(gN, .inr (4, [.ref bTh, .ref bXs, .ref bYs, .int n_kn, .int n_ct, .ref bA, .ref bB, .ref bC, .int n_rd, .ref bEd])), (bTh, .inl (cZ, 20, .inl n_th)), (bXs, .inl (cI, 20, .inl n_xs)), (bYs, .inl (cI, 20, .inl n_ys)), (bA, .inl (cI, 40, .inl n_a)), (bB, .inl (cI, 40, .inl n_b)), (bC, .inl (cI, 40, .inl n_c))] → va_S A s.heap H locs → ∀ (ls : Array Slot), lv_has ls 6 [(0, .ref gN), (1, .int x1), (3, .int x3), (4, .int x4), (5, .int x5)] → W p l e (headSpec w_N_across ({ frames := 5, cells := 0, slots := 0, locals := 143 } : Room)).room s m args below meth c H locs 0 0 (MQ below (QwI dC dI A [(gN, .inr (4, [.ref bTh, .ref bXs, .ref bYs, .int n_kn', .int n_ct', .ref bA, .ref bB, .ref bC, .int n_rd, .ref bEd])), (bTh, .inl (cZ, 20, .inl n_th)), (bXs, .inl (cI, 20, .inl n_xs)), (bYs, .inl (cI, 20, .inl n_ys)), (bA, .inl (cI, 40, .inl n_a')), (bB, .inl (cI, 40, .inl n_b')), (bC, .inl (cI, 40, .inl n_c'))] rv) args s 0 0 A) (F0 m 99 ls []) := by
  obtain ⟨hx, hb, hr, hml, hts, hown, hlocks⟩ := id C0
  intro n
  induction n with
  | zero =>
    intro n_kn n_ct n_a n_b n_c x1 x3 x4 x5 hf
    exact (o_n hf).elim
  | succ n ih =>
    intro n_kn n_ct n_a n_b n_c x1 x3 x4 x5 hf H locs hP hD hS ls hl
    refine lv_iload hx hb d_N_across_99 (lv_at hl 4 rfl) ?_
    refine lv_aload_n hx hb d_N_across_101 rfl (lv_at hl 0 rfl) ?_
    refine va_get (D := (dC, dI)) (ci := 4) (v := .int n_ct) (C := R_N) (T := T_N) (N := 10) hx hb hts in_N hown hK.1 hP 0 rfl rfl 4 (by decide) (hts _ bw_361) (fun _ h9 => h9) rfl d_N_across_102 ?_
    refine lv_icmp_ge (tgt := 144) hx hb d_N_across_105 (by decide) (fun hc1 => ?_) (fun hc1 => ?_)
    · have hf := o_t hf hc1
      refine lv_iconst (v := (-1 : Int32)) hx hb d_N_across_144 rfl ?_
      cases hf
      exact wr_i hx hb hr hlocks hP hD hS d_N_across_145
    · have hf := o_f hf hc1
      refine lv_iload hx hb d_N_across_108 (lv_at hl 4 rfl) ?_
      refine lv_iload_n hx hb d_N_across_110 rfl (lv_at hl 1 rfl) ?_
      refine lv_icmp_eq (tgt := 138) hx hb d_N_across_111 (by decide) (fun hc2 => ?_) (fun hc2 => ?_)
      · have hf := o_t hf hc2
        refine lv_iinc (v := (x5 + 1)) (lv' := [(5, .int (x5 + 1)), (0, .ref gN), (1, .int x1), (3, .int x3), (4, .int x4)]) hx hb d_N_across_138 hl (k := 4) rfl rfl (by decide) rfl (fun ls hl => ?_)
        refine lv_goto (tgt := 99) hx hb d_N_across_141 (by decide) ?_
        exact ih n_kn n_ct n_a n_b n_c x1 x3 x4 (x5 + 1) hf _ _ hP hD hS ls (lv_sub hl [1, 2, 3, 4, 0] rfl)
      · have hf := o_f hf hc2
        refine lv_aload_n hx hb d_N_across_114 rfl (lv_at hl 0 rfl) ?_
        refine lv_iload hx hb d_N_across_115 (lv_at hl 4 rfl) ?_
        refine lv_iload_n hx hb d_N_across_117 rfl (lv_at hl 2 rfl) ?_
        obtain ⟨r3, hv5, hf⟩ := o_b hf
        refine rc_i (va_runV (As := [.int x5, .int x3]) (rest := []) ⟨hx, hb, hml, hown, hts⟩ (c_N_has l dC dI cI cZ gN bTh bXs bYs bA bB bC bEd n_kn n_ct n_a n_b n_c n_rd x5 x3 r3 hv5) (cwV 2 hts (gd_V bw_465 bw_467 bp_21 bw_5 bw_468) rfl rfl rfl ⟨rfl, hd_N_has⟩ ⟨Nat.le_of_ble_eq_true rfl, Nat.le_of_ble_eq_true rfl⟩) (pv_r (wc := [(gN, .inr (4, [.ref bTh, .ref bXs, .ref bYs, .int n_kn, .int n_ct, .ref bA, .ref bB, .ref bC, .int n_rd, .ref bEd])), (bA, .inl (cI, 40, .inl n_a)), (bB, .inl (cI, 40, .inl n_b)), (bC, .inl (cI, 40, .inl n_c))]) hK hP [0, 4, 5, 6] rfl 0 (ci := 4) rfl rfl) rfl rfl hl.1 rfl (lv_room (Nat.le_of_ble_eq_true rfl)) d_N_across_118 ⟨Nat.zero_le _, Nat.zero_le _⟩) ?_
        refine lv_if_eq (tgt := 138) hx hb d_N_across_121 (by decide) (fun hc6 => ?_) (fun hc6 => ?_)
        · have hf := o_t hf hc6
          refine lv_iinc (v := (x5 + 1)) (lv' := [(5, .int (x5 + 1)), (0, .ref gN), (1, .int x1), (3, .int x3), (4, .int x4)]) hx hb d_N_across_138 hl (k := 4) rfl rfl (by decide) rfl (fun ls hl => ?_)
          refine lv_goto (tgt := 99) hx hb d_N_across_141 (by decide) ?_
          exact ih n_kn n_ct n_a n_b n_c x1 x3 x4 (x5 + 1) hf _ _ hP hD hS ls (lv_sub hl [1, 2, 3, 4, 0] rfl)
        · have hf := o_f hf hc6
          refine lv_aload_n hx hb d_N_across_124 rfl (lv_at hl 0 rfl) ?_
          refine lv_iload hx hb d_N_across_125 (lv_at hl 4 rfl) ?_
          refine lv_iload hx hb d_N_across_127 (lv_at hl 3 rfl) ?_
          obtain ⟨r7, hv9, hf⟩ := o_b hf
          refine rc_i (va_runV (As := [.int x5, .int x4]) (rest := []) ⟨hx, hb, hml, hown, hts⟩ (c_N_has l dC dI cI cZ gN bTh bXs bYs bA bB bC bEd n_kn n_ct n_a n_b n_c n_rd x5 x4 r7 hv9) (cwV 2 hts (gd_V bw_465 bw_467 bp_21 bw_5 bw_468) rfl rfl rfl ⟨rfl, hd_N_has⟩ ⟨Nat.le_of_ble_eq_true rfl, Nat.le_of_ble_eq_true rfl⟩) (pv_r (wc := [(gN, .inr (4, [.ref bTh, .ref bXs, .ref bYs, .int n_kn, .int n_ct, .ref bA, .ref bB, .ref bC, .int n_rd, .ref bEd])), (bA, .inl (cI, 40, .inl n_a)), (bB, .inl (cI, 40, .inl n_b)), (bC, .inl (cI, 40, .inl n_c))]) hK hP [0, 4, 5, 6] rfl 0 (ci := 4) rfl rfl) rfl rfl hl.1 rfl (lv_room (Nat.le_of_ble_eq_true rfl)) d_N_across_129 ⟨Nat.zero_le _, Nat.zero_le _⟩) ?_
          refine lv_if_eq (tgt := 138) hx hb d_N_across_132 (by decide) (fun hc10 => ?_) (fun hc10 => ?_)
          · have hf := o_t hf hc10
            refine lv_iinc (v := (x5 + 1)) (lv' := [(5, .int (x5 + 1)), (0, .ref gN), (1, .int x1), (3, .int x3), (4, .int x4)]) hx hb d_N_across_138 hl (k := 4) rfl rfl (by decide) rfl (fun ls hl => ?_)
            refine lv_goto (tgt := 99) hx hb d_N_across_141 (by decide) ?_
            exact ih n_kn n_ct n_a n_b n_c x1 x3 x4 (x5 + 1) hf _ _ hP hD hS ls (lv_sub hl [1, 2, 3, 4, 0] rfl)
          · have hf := o_f hf hc10
            refine lv_iload hx hb d_N_across_135 (lv_at hl 4 rfl) ?_
            cases hf
            exact wr_i hx hb hr hlocks hP hD hS d_N_across_137
set_option maxHeartbeats 4000000 in
set_option maxRecDepth 100000 in
theorem t_N_across_b60 {p : Program} {l : Launch} {e : Env} {s : State} {m : MethodId} {args : Array Value} {below : List Frame} {meth : Method} {c : Code} {dC : Nat → ClassId} {dI : Nat → Nat → Nat} {cI cZ : ClassId} {gN bTh bXs bYs bA bB bC bEd : Nat} {n_th : Nat → Int32} {n_xs : Nat → Int32} {n_ys : Nat → Int32} {n_rd : Int32} {rv : Int32} {n_kn' : Int32} {n_ct' : Int32} {n_a' : Nat → Int32} {n_b' : Nat → Int32} {n_c' : Nat → Int32} {A : Nat → Prop} (C0 : cx p s m args meth c b_N_across (some .int) 6 R_N) (hK : gK dC dI cI cZ s) (hA : ∀ q, s.heap.size ≤ q → A q) : ∀ (n_kn : Int32) (n_ct : Int32) (n_a : Nat → Int32) (n_b : Nat → Int32) (n_c : Nat → Int32) (x1 : Int32) (x2 : Int32) (z0 : Int32), f_N_across_b60 n_th n_xs n_ys n_kn n_ct n_a n_b n_c x1 x2 z0 = some (rv, n_kn', n_ct', n_a', n_b', n_c') → ∀ (H : Heap) (locs : List Loc), va_P (dC, dI) vwCl [(gN, .inr (4, [.ref bTh, .ref bXs, .ref bYs, .int n_kn, .int n_ct, .ref bA, .ref bB, .ref bC, .int n_rd, .ref bEd])), (bTh, .inl (cZ, 20, .inl n_th)), (bXs, .inl (cI, 20, .inl n_xs)), (bYs, .inl (cI, 20, .inl n_ys)), (bA, .inl (cI, 40, .inl n_a)), (bB, .inl (cI, 40, .inl n_b)), (bC, .inl (cI, 40, .inl n_c))] H → va_D A [(gN, .inr (4, [.ref bTh, .ref bXs, .ref bYs, .int n_kn, .int n_ct, .ref bA, .ref bB, .ref bC, .int n_rd, .ref bEd])), (bTh, .inl (cZ, 20, .inl n_th)), (bXs, .inl (cI, 20, .inl n_xs)), (bYs, .inl (cI, 20, .inl n_ys)), (bA, .inl (cI, 40, .inl n_a)), (bB, .inl (cI, 40, .inl n_b)), (bC, .inl (cI, 40, .inl n_c))] → va_S A s.heap H locs → ∀ (ls : Array Slot), lv_has ls 6 [(0, .ref gN), (1, .int x1), (2, .int x2)] → W p l e (headSpec w_N_across ({ frames := 5, cells := 0, slots := 0, locals := 143 } : Room)).room s m args below meth c H locs 0 0 (MQ below (QwI dC dI A [(gN, .inr (4, [.ref bTh, .ref bXs, .ref bYs, .int n_kn', .int n_ct', .ref bA, .ref bB, .ref bC, .int n_rd, .ref bEd])), (bTh, .inl (cZ, 20, .inl n_th)), (bXs, .inl (cI, 20, .inl n_xs)), (bYs, .inl (cI, 20, .inl n_ys)), (bA, .inl (cI, 40, .inl n_a')), (bB, .inl (cI, 40, .inl n_b')), (bC, .inl (cI, 40, .inl n_c'))] rv) args s 0 0 A) (F0 m 60 ls [.int z0]) := by
  obtain ⟨hx, hb, hr, hml, hts, hown, hlocks⟩ := id C0
  intro n_kn n_ct n_a n_b n_c x1 x2 z0 hf H locs hP hD hS ls hl
  refine lv_istore_n (lv' := [(3, .int z0), (0, .ref gN), (1, .int x1), (2, .int x2)]) hx hb d_N_across_60 rfl hl (by decide) rfl (fun ls hl => ?_)
  refine lv_iload_n hx hb d_N_across_61 rfl (lv_at hl 3 rfl) ?_
  refine lv_if_ne (tgt := 74) hx hb d_N_across_62 (by decide) (fun hc11 => ?_) (fun hc11 => ?_)
  · have hf := o_f hf hc11
    refine lv_iload_n hx hb d_N_across_74 rfl (lv_at hl 3 rfl) ?_
    refine lv_iconst (v := (1 : Int32)) hx hb d_N_across_75 rfl ?_
    refine lv_icmp_ne (tgt := 88) hx hb d_N_across_76 (by decide) (fun hc12 => ?_) (fun hc12 => ?_)
    · have hf := o_f hf hc12
      refine lv_aload_n hx hb d_N_across_88 rfl (lv_at hl 1 rfl) ?_
      refine va_get (D := (dC, dI)) (ci := 4) (v := .ref bB) (C := R_N) (T := T_N) (N := 10) hx hb hts in_N hown hK.1 hP 0 rfl rfl 6 (by decide) (hts _ bw_363) (fun _ h9 => h9) rfl d_N_across_89 ?_
      refine lv_iload_n hx hb d_N_across_92 rfl (lv_at hl 2 rfl) ?_
      obtain ⟨hi13, hf⟩ := o_i hf
      refine va_iald (cA := cI) (n := 40) (f := n_b) hx hb hK.1 hP 5 0 rfl rfl hi13 d_N_across_93 ?_
      refine lv_istore (lv' := [(4, .int (n_b x1.toNatClampNeg)), (3, .int z0), (0, .ref gN), (1, .int x1), (2, .int x2)]) hx hb d_N_across_94 hl (by decide) rfl (fun ls hl => ?_)
      refine lv_iconst (v := (0 : Int32)) hx hb d_N_across_96 rfl ?_
      refine lv_istore (lv' := [(5, .int (0 : Int32)), (4, .int (n_b x1.toNatClampNeg)), (3, .int z0), (0, .ref gN), (1, .int x1), (2, .int x2)]) hx hb d_N_across_97 hl (by decide) rfl (fun ls hl => ?_)
      exact t_N_across_L99 C0 hK hA  600 n_kn n_ct n_a n_b n_c x1 z0 (n_b x1.toNatClampNeg) (0 : Int32) hf _ _ hP hD hS ls (lv_sub hl [3, 4, 2, 1, 0] rfl)
    · have hf := o_t hf hc12
      refine lv_aload_n hx hb d_N_across_79 rfl (lv_at hl 1 rfl) ?_
      refine va_get (D := (dC, dI)) (ci := 4) (v := .ref bA) (C := R_N) (T := T_N) (N := 10) hx hb hts in_N hown hK.1 hP 0 rfl rfl 5 (by decide) (hts _ bw_362) (fun _ h9 => h9) rfl d_N_across_80 ?_
      refine lv_iload_n hx hb d_N_across_83 rfl (lv_at hl 2 rfl) ?_
      obtain ⟨hi14, hf⟩ := o_i hf
      refine va_iald (cA := cI) (n := 40) (f := n_a) hx hb hK.1 hP 4 0 rfl rfl hi14 d_N_across_84 ?_
      refine lv_goto (tgt := 94) hx hb d_N_across_85 (by decide) ?_
      refine lv_istore (lv' := [(4, .int (n_a x1.toNatClampNeg)), (3, .int z0), (0, .ref gN), (1, .int x1), (2, .int x2)]) hx hb d_N_across_94 hl (by decide) rfl (fun ls hl => ?_)
      refine lv_iconst (v := (0 : Int32)) hx hb d_N_across_96 rfl ?_
      refine lv_istore (lv' := [(5, .int (0 : Int32)), (4, .int (n_a x1.toNatClampNeg)), (3, .int z0), (0, .ref gN), (1, .int x1), (2, .int x2)]) hx hb d_N_across_97 hl (by decide) rfl (fun ls hl => ?_)
      exact t_N_across_L99 C0 hK hA  600 n_kn n_ct n_a n_b n_c x1 z0 (n_a x1.toNatClampNeg) (0 : Int32) hf _ _ hP hD hS ls (lv_sub hl [3, 4, 2, 1, 0] rfl)
  · have hf := o_t hf hc11
    refine lv_aload_n hx hb d_N_across_65 rfl (lv_at hl 1 rfl) ?_
    refine va_get (D := (dC, dI)) (ci := 4) (v := .ref bC) (C := R_N) (T := T_N) (N := 10) hx hb hts in_N hown hK.1 hP 0 rfl rfl 7 (by decide) (hts _ bw_364) (fun _ h9 => h9) rfl d_N_across_66 ?_
    refine lv_iload_n hx hb d_N_across_69 rfl (lv_at hl 2 rfl) ?_
    obtain ⟨hi15, hf⟩ := o_i hf
    refine va_iald (cA := cI) (n := 40) (f := n_c) hx hb hK.1 hP 6 0 rfl rfl hi15 d_N_across_70 ?_
    refine lv_goto (tgt := 94) hx hb d_N_across_71 (by decide) ?_
    refine lv_istore (lv' := [(4, .int (n_c x1.toNatClampNeg)), (3, .int z0), (0, .ref gN), (1, .int x1), (2, .int x2)]) hx hb d_N_across_94 hl (by decide) rfl (fun ls hl => ?_)
    refine lv_iconst (v := (0 : Int32)) hx hb d_N_across_96 rfl ?_
    refine lv_istore (lv' := [(5, .int (0 : Int32)), (4, .int (n_c x1.toNatClampNeg)), (3, .int z0), (0, .ref gN), (1, .int x1), (2, .int x2)]) hx hb d_N_across_97 hl (by decide) rfl (fun ls hl => ?_)
    exact t_N_across_L99 C0 hK hA  600 n_kn n_ct n_a n_b n_c x1 z0 (n_c x1.toNatClampNeg) (0 : Int32) hf _ _ hP hD hS ls (lv_sub hl [3, 4, 2, 1, 0] rfl)
set_option maxHeartbeats 4000000 in
set_option maxRecDepth 100000 in
theorem t_N_across_e {p : Program} {l : Launch} {e : Env} {s : State} {m : MethodId} {args : Array Value} {below : List Frame} {meth : Method} {c : Code} {dC : Nat → ClassId} {dI : Nat → Nat → Nat} {cI cZ : ClassId} {gN bTh bXs bYs bA bB bC bEd : Nat} {n_th : Nat → Int32} {n_xs : Nat → Int32} {n_ys : Nat → Int32} {n_rd : Int32} {rv : Int32} {n_kn' : Int32} {n_ct' : Int32} {n_a' : Nat → Int32} {n_b' : Nat → Int32} {n_c' : Nat → Int32} {A : Nat → Prop} (C0 : cx p s m args meth c b_N_across (some .int) 6 R_N) (hK : gK dC dI cI cZ s) (hA : ∀ q, s.heap.size ≤ q → A q) : ∀ (n_kn : Int32) (n_ct : Int32) (n_a : Nat → Int32) (n_b : Nat → Int32) (n_c : Nat → Int32) (x1 : Int32) (x2 : Int32), f_N_across n_th n_xs n_ys n_kn n_ct n_a n_b n_c x1 x2 = some (rv, n_kn', n_ct', n_a', n_b', n_c') → ∀ (H : Heap) (locs : List Loc), va_P (dC, dI) vwCl [(gN, .inr (4, [.ref bTh, .ref bXs, .ref bYs, .int n_kn, .int n_ct, .ref bA, .ref bB, .ref bC, .int n_rd, .ref bEd])), (bTh, .inl (cZ, 20, .inl n_th)), (bXs, .inl (cI, 20, .inl n_xs)), (bYs, .inl (cI, 20, .inl n_ys)), (bA, .inl (cI, 40, .inl n_a)), (bB, .inl (cI, 40, .inl n_b)), (bC, .inl (cI, 40, .inl n_c))] H → va_D A [(gN, .inr (4, [.ref bTh, .ref bXs, .ref bYs, .int n_kn, .int n_ct, .ref bA, .ref bB, .ref bC, .int n_rd, .ref bEd])), (bTh, .inl (cZ, 20, .inl n_th)), (bXs, .inl (cI, 20, .inl n_xs)), (bYs, .inl (cI, 20, .inl n_ys)), (bA, .inl (cI, 40, .inl n_a)), (bB, .inl (cI, 40, .inl n_b)), (bC, .inl (cI, 40, .inl n_c))] → va_S A s.heap H locs → ∀ (ls : Array Slot), lv_has ls 6 [(0, .ref gN), (1, .int x1), (2, .int x2)] → W p l e (headSpec w_N_across ({ frames := 5, cells := 0, slots := 0, locals := 143 } : Room)).room s m args below meth c H locs 0 0 (MQ below (QwI dC dI A [(gN, .inr (4, [.ref bTh, .ref bXs, .ref bYs, .int n_kn', .int n_ct', .ref bA, .ref bB, .ref bC, .int n_rd, .ref bEd])), (bTh, .inl (cZ, 20, .inl n_th)), (bXs, .inl (cI, 20, .inl n_xs)), (bYs, .inl (cI, 20, .inl n_ys)), (bA, .inl (cI, 40, .inl n_a')), (bB, .inl (cI, 40, .inl n_b')), (bC, .inl (cI, 40, .inl n_c'))] rv) args s 0 0 A) (F0 m 0 ls []) := by
  obtain ⟨hx, hb, hr, hml, hts, hown, hlocks⟩ := id C0
  intro n_kn n_ct n_a n_b n_c x1 x2 hf H locs hP hD hS ls hl
  refine lv_aload_n hx hb d_N_across_0 rfl (lv_at hl 0 rfl) ?_
  obtain ⟨⟨r16, r17, r18, r19, r20⟩, hv22, hf⟩ := o_b hf
  refine wc_v (wr := []) (w1 := [(gN, .inr (4, [.ref bTh, .ref bXs, .ref bYs, .int r16, .int r17, .ref bA, .ref bB, .ref bC, .int n_rd, .ref bEd])), (bTh, .inl (cZ, 20, .inl n_th)), (bXs, .inl (cI, 20, .inl n_xs)), (bYs, .inl (cI, 20, .inl n_ys)), (bA, .inl (cI, 40, .inl r18)), (bB, .inl (cI, 40, .inl r19)), (bC, .inl (cI, 40, .inl r20))]) (va_runV (As := []) (rest := []) ⟨hx, hb, hml, hown, hts⟩ (c_N_work l dC dI cI cZ gN bTh bXs bYs bA bB bC bEd n_th n_xs n_ys n_kn n_ct n_a n_b n_c n_rd r16 r17 r18 r19 r20 H.size hv22) (cwV 0 hts (gd_V bw_426 bw_428 bp_15 bw_5 bw_429) rfl rfl rfl ⟨rfl, hd_N_work⟩ ⟨Nat.le_of_ble_eq_true rfl, Nat.le_of_ble_eq_true rfl⟩) (pv_w (wc := [(gN, .inr (4, [.ref bTh, .ref bXs, .ref bYs, .int n_kn, .int n_ct, .ref bA, .ref bB, .ref bC, .int n_rd, .ref bEd])), (bTh, .inl (cZ, 20, .inl n_th)), (bXs, .inl (cI, 20, .inl n_xs)), (bYs, .inl (cI, 20, .inl n_ys)), (bA, .inl (cI, 40, .inl n_a)), (bB, .inl (cI, 40, .inl n_b)), (bC, .inl (cI, 40, .inl n_c))]) hK hP hD [0, 1, 2, 3, 4, 5, 6] rfl rfl (by decide) 0 (ci := 4) rfl rfl) rfl rfl hl.1 rfl (lv_room (Nat.le_of_ble_eq_true rfl)) d_N_across_1 ⟨Nat.zero_le _, Nat.zero_le _⟩) hP hD hS hA [0, 1, 2, 3, 4, 5, 6] [] rfl rfl (by decide) (by decide) (fun H locs hP hD hS => ?_)
  have hP : va_P (dC, dI) vwCl [(gN, .inr (4, [.ref bTh, .ref bXs, .ref bYs, .int r16, .int r17, .ref bA, .ref bB, .ref bC, .int n_rd, .ref bEd])), (bTh, .inl (cZ, 20, .inl n_th)), (bXs, .inl (cI, 20, .inl n_xs)), (bYs, .inl (cI, 20, .inl n_ys)), (bA, .inl (cI, 40, .inl r18)), (bB, .inl (cI, 40, .inl r19)), (bC, .inl (cI, 40, .inl r20))] H := hP.sub [0, 1, 2, 3, 4, 5, 6] rfl
  have hD : va_D A [(gN, .inr (4, [.ref bTh, .ref bXs, .ref bYs, .int r16, .int r17, .ref bA, .ref bB, .ref bC, .int n_rd, .ref bEd])), (bTh, .inl (cZ, 20, .inl n_th)), (bXs, .inl (cI, 20, .inl n_xs)), (bYs, .inl (cI, 20, .inl n_ys)), (bA, .inl (cI, 40, .inl r18)), (bB, .inl (cI, 40, .inl r19)), (bC, .inl (cI, 40, .inl r20))] := hD.sub [0, 1, 2, 3, 4, 5, 6] (by decide) rfl
  refine lv_iload_n hx hb d_N_across_4 rfl (lv_at hl 1 rfl) ?_
  refine lv_if_lt (tgt := 25) hx hb d_N_across_5 (by decide) (fun hc23 => ?_) (fun hc23 => ?_)
  · have hf := o_t hf hc23
    refine lv_iconst (v := (-1 : Int32)) hx hb d_N_across_25 rfl ?_
    cases hf
    exact wr_i hx hb hr hlocks hP hD hS d_N_across_26
  · have hf := o_f hf hc23
    refine lv_iload_n hx hb d_N_across_8 rfl (lv_at hl 1 rfl) ?_
    refine lv_aload_n hx hb d_N_across_9 rfl (lv_at hl 0 rfl) ?_
    refine va_get (D := (dC, dI)) (ci := 4) (v := .int r17) (C := R_N) (T := T_N) (N := 10) hx hb hts in_N hown hK.1 hP 0 rfl rfl 4 (by decide) (hts _ bw_361) (fun _ h9 => h9) rfl d_N_across_10 ?_
    refine lv_icmp_ge (tgt := 25) hx hb d_N_across_13 (by decide) (fun hc24 => ?_) (fun hc24 => ?_)
    · have hf := o_t hf hc24
      refine lv_iconst (v := (-1 : Int32)) hx hb d_N_across_25 rfl ?_
      cases hf
      exact wr_i hx hb hr hlocks hP hD hS d_N_across_26
    · have hf := o_f hf hc24
      refine lv_iload_n hx hb d_N_across_16 rfl (lv_at hl 2 rfl) ?_
      refine lv_if_lt (tgt := 25) hx hb d_N_across_17 (by decide) (fun hc25 => ?_) (fun hc25 => ?_)
      · have hf := o_t hf hc25
        refine lv_iconst (v := (-1 : Int32)) hx hb d_N_across_25 rfl ?_
        cases hf
        exact wr_i hx hb hr hlocks hP hD hS d_N_across_26
      · have hf := o_f hf hc25
        refine lv_iload_n hx hb d_N_across_20 rfl (lv_at hl 2 rfl) ?_
        refine lv_iconst (v := (2 : Int32)) hx hb d_N_across_21 rfl ?_
        refine lv_icmp_le (tgt := 27) hx hb d_N_across_22 (by decide) (fun hc26 => ?_) (fun hc26 => ?_)
        · have hf := o_t hf hc26
          refine lv_iload_n hx hb d_N_across_27 rfl (lv_at hl 2 rfl) ?_
          refine lv_if_ne (tgt := 40) hx hb d_N_across_28 (by decide) (fun hc27 => ?_) (fun hc27 => ?_)
          · have hf := o_f hf hc27
            refine lv_iload_n hx hb d_N_across_40 rfl (lv_at hl 2 rfl) ?_
            refine lv_iconst (v := (1 : Int32)) hx hb d_N_across_41 rfl ?_
            refine lv_icmp_ne (tgt := 54) hx hb d_N_across_42 (by decide) (fun hc28 => ?_) (fun hc28 => ?_)
            · have hf := o_f hf hc28
              refine lv_aload_n hx hb d_N_across_54 rfl (lv_at hl 0 rfl) ?_
              refine va_get (D := (dC, dI)) (ci := 4) (v := .ref bA) (C := R_N) (T := T_N) (N := 10) hx hb hts in_N hown hK.1 hP 0 rfl rfl 5 (by decide) (hts _ bw_362) (fun _ h9 => h9) rfl d_N_across_55 ?_
              refine lv_iload_n hx hb d_N_across_58 rfl (lv_at hl 1 rfl) ?_
              obtain ⟨hi29, hf⟩ := o_i hf
              refine va_iald (cA := cI) (n := 40) (f := r18) hx hb hK.1 hP 4 0 rfl rfl hi29 d_N_across_59 ?_
              exact t_N_across_b60 C0 hK hA  r16 r17 r18 r19 r20 x1 x2 (r18 x1.toNatClampNeg) hf _ _ hP hD hS ls (lv_sub hl [0, 1, 2] rfl)
            · have hf := o_t hf hc28
              refine lv_aload_n hx hb d_N_across_45 rfl (lv_at hl 0 rfl) ?_
              refine va_get (D := (dC, dI)) (ci := 4) (v := .ref bC) (C := R_N) (T := T_N) (N := 10) hx hb hts in_N hown hK.1 hP 0 rfl rfl 7 (by decide) (hts _ bw_364) (fun _ h9 => h9) rfl d_N_across_46 ?_
              refine lv_iload_n hx hb d_N_across_49 rfl (lv_at hl 1 rfl) ?_
              obtain ⟨hi30, hf⟩ := o_i hf
              refine va_iald (cA := cI) (n := 40) (f := r20) hx hb hK.1 hP 6 0 rfl rfl hi30 d_N_across_50 ?_
              refine lv_goto (tgt := 60) hx hb d_N_across_51 (by decide) ?_
              exact t_N_across_b60 C0 hK hA  r16 r17 r18 r19 r20 x1 x2 (r20 x1.toNatClampNeg) hf _ _ hP hD hS ls (lv_sub hl [0, 1, 2] rfl)
          · have hf := o_t hf hc27
            refine lv_aload_n hx hb d_N_across_31 rfl (lv_at hl 0 rfl) ?_
            refine va_get (D := (dC, dI)) (ci := 4) (v := .ref bB) (C := R_N) (T := T_N) (N := 10) hx hb hts in_N hown hK.1 hP 0 rfl rfl 6 (by decide) (hts _ bw_363) (fun _ h9 => h9) rfl d_N_across_32 ?_
            refine lv_iload_n hx hb d_N_across_35 rfl (lv_at hl 1 rfl) ?_
            obtain ⟨hi31, hf⟩ := o_i hf
            refine va_iald (cA := cI) (n := 40) (f := r19) hx hb hK.1 hP 5 0 rfl rfl hi31 d_N_across_36 ?_
            refine lv_goto (tgt := 60) hx hb d_N_across_37 (by decide) ?_
            exact t_N_across_b60 C0 hK hA  r16 r17 r18 r19 r20 x1 x2 (r19 x1.toNatClampNeg) hf _ _ hP hD hS ls (lv_sub hl [0, 1, 2] rfl)
        · have hf := o_f hf hc26
          refine lv_iconst (v := (-1 : Int32)) hx hb d_N_across_25 rfl ?_
          cases hf
          exact wr_i hx hb hr hlocks hP hD hS d_N_across_26
set_option maxHeartbeats 4000000 in
set_option maxRecDepth 100000 in
theorem c_N_across (l : Launch) (dC : Nat → ClassId) (dI : Nat → Nat → Nat) (cI cZ : ClassId) (gN bTh bXs bYs bA bB bC bEd : Nat) (n_th : Nat → Int32) (n_xs : Nat → Int32) (n_ys : Nat → Int32) (n_kn : Int32) (n_ct : Int32) (n_a : Nat → Int32) (n_b : Nat → Int32) (n_c : Nat → Int32) (n_rd : Int32) (x1 : Int32) (x2 : Int32) (rv : Int32) (n_kn' : Int32) (n_ct' : Int32) (n_a' : Nat → Int32) (n_b' : Nat → Int32) (n_c' : Nat → Int32) (sz : Nat) (hf : f_N_across n_th n_xs n_ys n_kn n_ct n_a n_b n_c x1 x2 = some (rv, n_kn', n_ct', n_a', n_b', n_c')) : Met l y_N_across w_N_across ({ frames := 5, cells := 0, slots := 0, locals := 143 } : Room) (PcW dC dI cI cZ [.ref gN, .int x1, .int x2] [(gN, .inr (4, [.ref bTh, .ref bXs, .ref bYs, .int n_kn, .int n_ct, .ref bA, .ref bB, .ref bC, .int n_rd, .ref bEd])), (bTh, .inl (cZ, 20, .inl n_th)), (bXs, .inl (cI, 20, .inl n_xs)), (bYs, .inl (cI, 20, .inl n_ys)), (bA, .inl (cI, 40, .inl n_a)), (bB, .inl (cI, 40, .inl n_b)), (bC, .inl (cI, 40, .inl n_c))] sz) (QwI dC dI (va_A [(gN, .inr (4, [.ref bTh, .ref bXs, .ref bYs, .int n_kn, .int n_ct, .ref bA, .ref bB, .ref bC, .int n_rd, .ref bEd])), (bTh, .inl (cZ, 20, .inl n_th)), (bXs, .inl (cI, 20, .inl n_xs)), (bYs, .inl (cI, 20, .inl n_ys)), (bA, .inl (cI, 40, .inl n_a)), (bB, .inl (cI, 40, .inl n_b)), (bC, .inl (cI, 40, .inl n_c))] sz) [(gN, .inr (4, [.ref bTh, .ref bXs, .ref bYs, .int n_kn', .int n_ct', .ref bA, .ref bB, .ref bC, .int n_rd, .ref bEd])), (bTh, .inl (cZ, 20, .inl n_th)), (bXs, .inl (cI, 20, .inl n_xs)), (bYs, .inl (cI, 20, .inl n_ys)), (bA, .inl (cI, 40, .inl n_a')), (bB, .inl (cI, 40, .inl n_b')), (bC, .inl (cI, 40, .inl n_c'))] rv) 0 0 (va_A [(gN, .inr (4, [.ref bTh, .ref bXs, .ref bYs, .int n_kn, .int n_ct, .ref bA, .ref bB, .ref bC, .int n_rd, .ref bEd])), (bTh, .inl (cZ, 20, .inl n_th)), (bXs, .inl (cI, 20, .inl n_xs)), (bYs, .inl (cI, 20, .inl n_ys)), (bA, .inl (cI, 40, .inl n_a)), (bB, .inl (cI, 40, .inl n_b)), (bC, .inl (cI, 40, .inl n_c))] sz) := by
  refine Met.ofW (cc := b_N_across) (maxL := 6) (ret := (some .int)) (by decide) rfl ?_
  intro p e s m args below meth c s₁ B hml hv
  obtain ⟨rfl, hsz, hP, hK, hD0⟩ := hv
  have C0 : cx p s m _ meth c b_N_across (some .int) 6 R_N := ⟨B.exec, B.bytes, B.returns, hml, fun w hw => atoms_spec (ws := w_N_across) B.pre w (List.mem_cons_of_mem _ hw), findClass_of_methodNamed B.named, B.notSynchronized⟩
  subst hsz
  have hD := hD0.self (sz := s.heap.size)
  generalize hAe : va_A [(gN, .inr (4, [.ref bTh, .ref bXs, .ref bYs, .int n_kn, .int n_ct, .ref bA, .ref bB, .ref bC, .int n_rd, .ref bEd])), (bTh, .inl (cZ, 20, .inl n_th)), (bXs, .inl (cI, 20, .inl n_xs)), (bYs, .inl (cI, 20, .inl n_ys)), (bA, .inl (cI, 40, .inl n_a)), (bB, .inl (cI, 40, .inl n_b)), (bC, .inl (cI, 40, .inl n_c))] s.heap.size = A at hD ⊢
  have hA : ∀ q : Nat, s.heap.size ≤ q → A q := fun q h => by rw [← hAe]; exact Or.inr h
  have hl := lv_entry ([.ref gN, .int x1, .int x2]) (n := 6) (Nat.le_of_ble_eq_true rfl)
  rw [lg_entry_eq]
  generalize (lg_sl ([.ref gN, .int x1, .int x2]) ++ List.replicate (6 - (lg_sl ([.ref gN, .int x1, .int x2])).length) Slot.unset).toArray = ls at hl ⊢
  have hl : lv_has ls 6 [(0, .ref gN), (1, .int x1), (2, .int x2)] := hl
  exact t_N_across_e C0 hK hA n_kn n_ct n_a n_b n_c x1 x2 hf _ _ hP hD va_S.rf ls hl
set_option maxHeartbeats 4000000 in
set_option maxRecDepth 100000 in
theorem t_N_corners_b69 {p : Program} {l : Launch} {e : Env} {s : State} {m : MethodId} {args : Array Value} {below : List Frame} {meth : Method} {c : Code} {dC : Nat → ClassId} {dI : Nat → Nat → Nat} {cI cZ : ClassId} {gN bTh bXs bYs bA bB bC bEd : Nat} {n_th : Nat → Int32} {n_xs : Nat → Int32} {n_ys : Nat → Int32} {n_rd : Int32} {rv : Int32} {n_kn' : Int32} {n_ct' : Int32} {n_a' : Nat → Int32} {n_b' : Nat → Int32} {n_c' : Nat → Int32} {A : Nat → Prop} (C0 : cx p s m args meth c b_N_corners (some .int) 4 R_N) (hK : gK dC dI cI cZ s) (hA : ∀ q, s.heap.size ≤ q → A q) {k22 : Int32 → Int32 → (Nat → Int32) → (Nat → Int32) → (Nat → Int32) → Int32 → Int32 → Int32 → Option (Int32 × Int32 × Int32 × (Nat → Int32) × (Nat → Int32) × (Nat → Int32))} (hk22 : ∀ (n_kn : Int32) (n_ct : Int32) (n_a : Nat → Int32) (n_b : Nat → Int32) (n_c : Nat → Int32) (x1 : Int32) (x2 : Int32) (x3 : Int32), k22 n_kn n_ct n_a n_b n_c x1 x2 x3 = some (rv, n_kn', n_ct', n_a', n_b', n_c') → ∀ (H : Heap) (locs : List Loc), va_P (dC, dI) vwCl [(gN, .inr (4, [.ref bTh, .ref bXs, .ref bYs, .int n_kn, .int n_ct, .ref bA, .ref bB, .ref bC, .int n_rd, .ref bEd])), (bTh, .inl (cZ, 20, .inl n_th)), (bXs, .inl (cI, 20, .inl n_xs)), (bYs, .inl (cI, 20, .inl n_ys)), (bA, .inl (cI, 40, .inl n_a)), (bB, .inl (cI, 40, .inl n_b)), (bC, .inl (cI, 40, .inl n_c))] H → va_D A [(gN, .inr (4, [.ref bTh, .ref bXs, .ref bYs, .int n_kn, .int n_ct, .ref bA, .ref bB, .ref bC, .int n_rd, .ref bEd])), (bTh, .inl (cZ, 20, .inl n_th)), (bXs, .inl (cI, 20, .inl n_xs)), (bYs, .inl (cI, 20, .inl n_ys)), (bA, .inl (cI, 40, .inl n_a)), (bB, .inl (cI, 40, .inl n_b)), (bC, .inl (cI, 40, .inl n_c))] → va_S A s.heap H locs → ∀ (ls : Array Slot), lv_has ls 4 [(0, .ref gN), (1, .int x1), (2, .int x2), (3, .int x3)] → W p l e (headSpec w_N_corners ({ frames := 5, cells := 0, slots := 0, locals := 143 } : Room)).room s m args below meth c H locs 0 0 (MQ below (QwI dC dI A [(gN, .inr (4, [.ref bTh, .ref bXs, .ref bYs, .int n_kn', .int n_ct', .ref bA, .ref bB, .ref bC, .int n_rd, .ref bEd])), (bTh, .inl (cZ, 20, .inl n_th)), (bXs, .inl (cI, 20, .inl n_xs)), (bYs, .inl (cI, 20, .inl n_ys)), (bA, .inl (cI, 40, .inl n_a')), (bB, .inl (cI, 40, .inl n_b')), (bC, .inl (cI, 40, .inl n_c'))] rv) args s 0 0 A) (F0 m 22 ls [])) : ∀ (n_kn : Int32) (n_ct : Int32) (n_a : Nat → Int32) (n_b : Nat → Int32) (n_c : Nat → Int32) (x1 : Int32) (x3 : Int32) (z0 : Int32) (z1 : Int32), f_N_corners_b69 k22 n_th n_xs n_ys n_kn n_ct n_a n_b n_c x1 x3 z0 z1 = some (rv, n_kn', n_ct', n_a', n_b', n_c') → ∀ (H : Heap) (locs : List Loc), va_P (dC, dI) vwCl [(gN, .inr (4, [.ref bTh, .ref bXs, .ref bYs, .int n_kn, .int n_ct, .ref bA, .ref bB, .ref bC, .int n_rd, .ref bEd])), (bTh, .inl (cZ, 20, .inl n_th)), (bXs, .inl (cI, 20, .inl n_xs)), (bYs, .inl (cI, 20, .inl n_ys)), (bA, .inl (cI, 40, .inl n_a)), (bB, .inl (cI, 40, .inl n_b)), (bC, .inl (cI, 40, .inl n_c))] H → va_D A [(gN, .inr (4, [.ref bTh, .ref bXs, .ref bYs, .int n_kn, .int n_ct, .ref bA, .ref bB, .ref bC, .int n_rd, .ref bEd])), (bTh, .inl (cZ, 20, .inl n_th)), (bXs, .inl (cI, 20, .inl n_xs)), (bYs, .inl (cI, 20, .inl n_ys)), (bA, .inl (cI, 40, .inl n_a)), (bB, .inl (cI, 40, .inl n_b)), (bC, .inl (cI, 40, .inl n_c))] → va_S A s.heap H locs → ∀ (ls : Array Slot), lv_has ls 4 [(0, .ref gN), (1, .int x1), (3, .int x3)] → W p l e (headSpec w_N_corners ({ frames := 5, cells := 0, slots := 0, locals := 143 } : Room)).room s m args below meth c H locs 0 0 (MQ below (QwI dC dI A [(gN, .inr (4, [.ref bTh, .ref bXs, .ref bYs, .int n_kn', .int n_ct', .ref bA, .ref bB, .ref bC, .int n_rd, .ref bEd])), (bTh, .inl (cZ, 20, .inl n_th)), (bXs, .inl (cI, 20, .inl n_xs)), (bYs, .inl (cI, 20, .inl n_ys)), (bA, .inl (cI, 40, .inl n_a')), (bB, .inl (cI, 40, .inl n_b')), (bC, .inl (cI, 40, .inl n_c'))] rv) args s 0 0 A) (F0 m 69 ls [.int z1, .int z0]) := by
  obtain ⟨hx, hb, hr, hml, hts, hown, hlocks⟩ := id C0
  intro n_kn n_ct n_a n_b n_c x1 x3 z0 z1 hf H locs hP hD hS ls hl
  refine lv_iadd hx hb d_N_corners_69 ?_
  refine lv_istore_n (lv' := [(2, .int (z0 + z1)), (0, .ref gN), (1, .int x1), (3, .int x3)]) hx hb d_N_corners_70 rfl hl (by decide) rfl (fun ls hl => ?_)
  refine lv_iinc (v := (x3 + 1)) (lv' := [(3, .int (x3 + 1)), (2, .int (z0 + z1)), (0, .ref gN), (1, .int x1)]) hx hb d_N_corners_71 hl (k := 3) rfl rfl (by decide) rfl (fun ls hl => ?_)
  refine lv_goto (tgt := 22) hx hb d_N_corners_74 (by decide) ?_
  exact hk22 n_kn n_ct n_a n_b n_c x1 (z0 + z1) (x3 + 1) hf _ _ hP hD hS ls (lv_sub hl [2, 3, 1, 0] rfl)
set_option maxHeartbeats 4000000 in
set_option maxRecDepth 100000 in
theorem t_N_corners_b68 {p : Program} {l : Launch} {e : Env} {s : State} {m : MethodId} {args : Array Value} {below : List Frame} {meth : Method} {c : Code} {dC : Nat → ClassId} {dI : Nat → Nat → Nat} {cI cZ : ClassId} {gN bTh bXs bYs bA bB bC bEd : Nat} {n_th : Nat → Int32} {n_xs : Nat → Int32} {n_ys : Nat → Int32} {n_rd : Int32} {rv : Int32} {n_kn' : Int32} {n_ct' : Int32} {n_a' : Nat → Int32} {n_b' : Nat → Int32} {n_c' : Nat → Int32} {A : Nat → Prop} (C0 : cx p s m args meth c b_N_corners (some .int) 4 R_N) (hK : gK dC dI cI cZ s) (hA : ∀ q, s.heap.size ≤ q → A q) {k22 : Int32 → Int32 → (Nat → Int32) → (Nat → Int32) → (Nat → Int32) → Int32 → Int32 → Int32 → Option (Int32 × Int32 × Int32 × (Nat → Int32) × (Nat → Int32) × (Nat → Int32))} (hk22 : ∀ (n_kn : Int32) (n_ct : Int32) (n_a : Nat → Int32) (n_b : Nat → Int32) (n_c : Nat → Int32) (x1 : Int32) (x2 : Int32) (x3 : Int32), k22 n_kn n_ct n_a n_b n_c x1 x2 x3 = some (rv, n_kn', n_ct', n_a', n_b', n_c') → ∀ (H : Heap) (locs : List Loc), va_P (dC, dI) vwCl [(gN, .inr (4, [.ref bTh, .ref bXs, .ref bYs, .int n_kn, .int n_ct, .ref bA, .ref bB, .ref bC, .int n_rd, .ref bEd])), (bTh, .inl (cZ, 20, .inl n_th)), (bXs, .inl (cI, 20, .inl n_xs)), (bYs, .inl (cI, 20, .inl n_ys)), (bA, .inl (cI, 40, .inl n_a)), (bB, .inl (cI, 40, .inl n_b)), (bC, .inl (cI, 40, .inl n_c))] H → va_D A [(gN, .inr (4, [.ref bTh, .ref bXs, .ref bYs, .int n_kn, .int n_ct, .ref bA, .ref bB, .ref bC, .int n_rd, .ref bEd])), (bTh, .inl (cZ, 20, .inl n_th)), (bXs, .inl (cI, 20, .inl n_xs)), (bYs, .inl (cI, 20, .inl n_ys)), (bA, .inl (cI, 40, .inl n_a)), (bB, .inl (cI, 40, .inl n_b)), (bC, .inl (cI, 40, .inl n_c))] → va_S A s.heap H locs → ∀ (ls : Array Slot), lv_has ls 4 [(0, .ref gN), (1, .int x1), (2, .int x2), (3, .int x3)] → W p l e (headSpec w_N_corners ({ frames := 5, cells := 0, slots := 0, locals := 143 } : Room)).room s m args below meth c H locs 0 0 (MQ below (QwI dC dI A [(gN, .inr (4, [.ref bTh, .ref bXs, .ref bYs, .int n_kn', .int n_ct', .ref bA, .ref bB, .ref bC, .int n_rd, .ref bEd])), (bTh, .inl (cZ, 20, .inl n_th)), (bXs, .inl (cI, 20, .inl n_xs)), (bYs, .inl (cI, 20, .inl n_ys)), (bA, .inl (cI, 40, .inl n_a')), (bB, .inl (cI, 40, .inl n_b')), (bC, .inl (cI, 40, .inl n_c'))] rv) args s 0 0 A) (F0 m 22 ls [])) : ∀ (n_kn : Int32) (n_ct : Int32) (n_a : Nat → Int32) (n_b : Nat → Int32) (n_c : Nat → Int32) (x1 : Int32) (x3 : Int32) (z0 : Int32), f_N_corners_b68 k22 n_th n_xs n_ys n_kn n_ct n_a n_b n_c x1 x3 z0 = some (rv, n_kn', n_ct', n_a', n_b', n_c') → ∀ (H : Heap) (locs : List Loc), va_P (dC, dI) vwCl [(gN, .inr (4, [.ref bTh, .ref bXs, .ref bYs, .int n_kn, .int n_ct, .ref bA, .ref bB, .ref bC, .int n_rd, .ref bEd])), (bTh, .inl (cZ, 20, .inl n_th)), (bXs, .inl (cI, 20, .inl n_xs)), (bYs, .inl (cI, 20, .inl n_ys)), (bA, .inl (cI, 40, .inl n_a)), (bB, .inl (cI, 40, .inl n_b)), (bC, .inl (cI, 40, .inl n_c))] H → va_D A [(gN, .inr (4, [.ref bTh, .ref bXs, .ref bYs, .int n_kn, .int n_ct, .ref bA, .ref bB, .ref bC, .int n_rd, .ref bEd])), (bTh, .inl (cZ, 20, .inl n_th)), (bXs, .inl (cI, 20, .inl n_xs)), (bYs, .inl (cI, 20, .inl n_ys)), (bA, .inl (cI, 40, .inl n_a)), (bB, .inl (cI, 40, .inl n_b)), (bC, .inl (cI, 40, .inl n_c))] → va_S A s.heap H locs → ∀ (ls : Array Slot), lv_has ls 4 [(0, .ref gN), (1, .int x1), (3, .int x3)] → W p l e (headSpec w_N_corners ({ frames := 5, cells := 0, slots := 0, locals := 143 } : Room)).room s m args below meth c H locs 0 0 (MQ below (QwI dC dI A [(gN, .inr (4, [.ref bTh, .ref bXs, .ref bYs, .int n_kn', .int n_ct', .ref bA, .ref bB, .ref bC, .int n_rd, .ref bEd])), (bTh, .inl (cZ, 20, .inl n_th)), (bXs, .inl (cI, 20, .inl n_xs)), (bYs, .inl (cI, 20, .inl n_ys)), (bA, .inl (cI, 40, .inl n_a')), (bB, .inl (cI, 40, .inl n_b')), (bC, .inl (cI, 40, .inl n_c'))] rv) args s 0 0 A) (F0 m 68 ls [.int z0]) := by
  obtain ⟨hx, hb, hr, hml, hts, hown, hlocks⟩ := id C0
  intro n_kn n_ct n_a n_b n_c x1 x3 z0 hf H locs hP hD hS ls hl
  refine lv_iconst (v := (0 : Int32)) hx hb d_N_corners_68 rfl ?_
  exact t_N_corners_b69 C0 hK hA (k22 := k22) hk22 n_kn n_ct n_a n_b n_c x1 x3 z0 (0 : Int32) hf _ _ hP hD hS ls (lv_sub hl [0, 1, 2] rfl)
set_option maxHeartbeats 4000000 in
set_option maxRecDepth 100000 in
theorem t_N_corners_L22 {p : Program} {l : Launch} {e : Env} {s : State} {m : MethodId} {args : Array Value} {below : List Frame} {meth : Method} {c : Code} {dC : Nat → ClassId} {dI : Nat → Nat → Nat} {cI cZ : ClassId} {gN bTh bXs bYs bA bB bC bEd : Nat} {n_th : Nat → Int32} {n_xs : Nat → Int32} {n_ys : Nat → Int32} {n_rd : Int32} {rv : Int32} {n_kn' : Int32} {n_ct' : Int32} {n_a' : Nat → Int32} {n_b' : Nat → Int32} {n_c' : Nat → Int32} {A : Nat → Prop} (C0 : cx p s m args meth c b_N_corners (some .int) 4 R_N) (hK : gK dC dI cI cZ s) (hA : ∀ q, s.heap.size ≤ q → A q) : ∀ (n : Nat) (n_kn : Int32) (n_ct : Int32) (n_a : Nat → Int32) (n_b : Nat → Int32) (n_c : Nat → Int32) (x1 : Int32) (x2 : Int32) (x3 : Int32), f_N_corners_L22 n_th n_xs n_ys n n_kn n_ct n_a n_b n_c x1 x2 x3 = some (rv, n_kn', n_ct', n_a', n_b', n_c') → ∀ (H : Heap) (locs : List Loc), va_P (dC, dI) vwCl [(gN, .inr (4, [.ref bTh, .ref bXs, .ref bYs, .int n_kn, .int n_ct, .ref bA, .ref bB, .ref bC, .int n_rd, .ref bEd])), (bTh, .inl (cZ, 20, .inl n_th)), (bXs, .inl (cI, 20, .inl n_xs)), (bYs, .inl (cI, 20, .inl n_ys)), (bA, .inl (cI, 40, .inl n_a)), (bB, .inl (cI, 40, .inl n_b)), (bC, .inl (cI, 40, .inl n_c))] H → va_D A [(gN, .inr (4, [.ref bTh, .ref bXs, .ref bYs, .int n_kn, .int n_ct, .ref bA, .ref bB, .ref bC, .int n_rd, .ref bEd])), (bTh, .inl (cZ, 20, .inl n_th)), (bXs, .inl (cI, 20, .inl n_xs)), (bYs, .inl (cI, 20, .inl n_ys)), (bA, .inl (cI, 40, .inl n_a)), (bB, .inl (cI, 40, .inl n_b)), (bC, .inl (cI, 40, .inl n_c))] → va_S A s.heap H locs → ∀ (ls : Array Slot), lv_has ls 4 [(0, .ref gN), (1, .int x1), (2, .int x2), (3, .int x3)] → W p l e (headSpec w_N_corners ({ frames := 5, cells := 0, slots := 0, locals := 143 } : Room)).room s m args below meth c H locs 0 0 (MQ below (QwI dC dI A [(gN, .inr (4, [.ref bTh, .ref bXs, .ref bYs, .int n_kn', .int n_ct', .ref bA, .ref bB, .ref bC, .int n_rd, .ref bEd])), (bTh, .inl (cZ, 20, .inl n_th)), (bXs, .inl (cI, 20, .inl n_xs)), (bYs, .inl (cI, 20, .inl n_ys)), (bA, .inl (cI, 40, .inl n_a')), (bB, .inl (cI, 40, .inl n_b')), (bC, .inl (cI, 40, .inl n_c'))] rv) args s 0 0 A) (F0 m 22 ls []) := by
  obtain ⟨hx, hb, hr, hml, hts, hown, hlocks⟩ := id C0
  intro n
  induction n with
  | zero =>
    intro n_kn n_ct n_a n_b n_c x1 x2 x3 hf
    exact (o_n hf).elim
  | succ n ih =>
    intro n_kn n_ct n_a n_b n_c x1 x2 x3 hf H locs hP hD hS ls hl
    refine lv_iload_n hx hb d_N_corners_22 rfl (lv_at hl 3 rfl) ?_
    refine lv_bipush (v := (20 : Int32)) hx hb d_N_corners_23 rfl ?_
    refine lv_icmp_ge (tgt := 77) hx hb d_N_corners_25 (by decide) (fun hc1 => ?_) (fun hc1 => ?_)
    · have hf := o_t hf hc1
      refine lv_iload_n hx hb d_N_corners_77 rfl (lv_at hl 2 rfl) ?_
      cases hf
      exact wr_i hx hb hr hlocks hP hD hS d_N_corners_78
    · have hf := o_f hf hc1
      refine lv_iload_n hx hb d_N_corners_28 rfl (lv_at hl 2 rfl) ?_
      refine lv_aload_n hx hb d_N_corners_29 rfl (lv_at hl 0 rfl) ?_
      refine va_get (D := (dC, dI)) (ci := 4) (v := .ref bTh) (C := R_N) (T := T_N) (N := 10) hx hb hts in_N hown hK.1 hP 0 rfl rfl 0 (by decide) (hts _ bw_357) (fun _ h9 => h9) rfl d_N_corners_30 ?_
      refine lv_iload_n hx hb d_N_corners_33 rfl (lv_at hl 3 rfl) ?_
      obtain ⟨hi2, hf⟩ := o_i hf
      refine va_zald (cA := cZ) (n := 20) (f := n_th) hx hb hK.1 hP 1 1 rfl rfl hi2 d_N_corners_34 ?_
      refine lv_if_eq (tgt := 68) hx hb d_N_corners_35 (by decide) (fun hc3 => ?_) (fun hc3 => ?_)
      · have hf := o_t hf hc3
        exact t_N_corners_b68 C0 hK hA (k22 := (fun n_kn n_ct n_a n_b n_c x1 x2 x3 => f_N_corners_L22 n_th n_xs n_ys n n_kn n_ct n_a n_b n_c x1 x2 x3)) ih n_kn n_ct n_a n_b n_c x1 x3 x2 hf _ _ hP hD hS ls (lv_sub hl [0, 1, 3] rfl)
      · have hf := o_f hf hc3
        refine lv_aload_n hx hb d_N_corners_38 rfl (lv_at hl 0 rfl) ?_
        refine lv_aload_n hx hb d_N_corners_39 rfl (lv_at hl 0 rfl) ?_
        refine va_get (D := (dC, dI)) (ci := 4) (v := .ref bA) (C := R_N) (T := T_N) (N := 10) hx hb hts in_N hown hK.1 hP 0 rfl rfl 5 (by decide) (hts _ bw_362) (fun _ h9 => h9) rfl d_N_corners_40 ?_
        refine lv_iload_n hx hb d_N_corners_43 rfl (lv_at hl 1 rfl) ?_
        obtain ⟨hi4, hf⟩ := o_i hf
        refine va_iald (cA := cI) (n := 40) (f := n_a) hx hb hK.1 hP 4 0 rfl rfl hi4 d_N_corners_44 ?_
        refine lv_aload_n hx hb d_N_corners_45 rfl (lv_at hl 0 rfl) ?_
        refine va_get (D := (dC, dI)) (ci := 4) (v := .ref bB) (C := R_N) (T := T_N) (N := 10) hx hb hts in_N hown hK.1 hP 0 rfl rfl 6 (by decide) (hts _ bw_363) (fun _ h9 => h9) rfl d_N_corners_46 ?_
        refine lv_iload_n hx hb d_N_corners_49 rfl (lv_at hl 1 rfl) ?_
        obtain ⟨hi5, hf⟩ := o_i hf
        refine va_iald (cA := cI) (n := 40) (f := n_b) hx hb hK.1 hP 5 0 rfl rfl hi5 d_N_corners_50 ?_
        refine lv_aload_n hx hb d_N_corners_51 rfl (lv_at hl 0 rfl) ?_
        refine va_get (D := (dC, dI)) (ci := 4) (v := .ref bC) (C := R_N) (T := T_N) (N := 10) hx hb hts in_N hown hK.1 hP 0 rfl rfl 7 (by decide) (hts _ bw_364) (fun _ h9 => h9) rfl d_N_corners_52 ?_
        refine lv_iload_n hx hb d_N_corners_55 rfl (lv_at hl 1 rfl) ?_
        obtain ⟨hi6, hf⟩ := o_i hf
        refine va_iald (cA := cI) (n := 40) (f := n_c) hx hb hK.1 hP 6 0 rfl rfl hi6 d_N_corners_56 ?_
        refine lv_iload_n hx hb d_N_corners_57 rfl (lv_at hl 3 rfl) ?_
        obtain ⟨r7, hv9, hf⟩ := o_b hf
        refine rc_i (va_runV (As := [.int (n_a x1.toNatClampNeg), .int (n_b x1.toNatClampNeg), .int (n_c x1.toNatClampNeg), .int x3]) (rest := [.int x2]) ⟨hx, hb, hml, hown, hts⟩ (c_N_circle l dC dI cI cZ gN bTh bXs bYs bA bB bC bEd n_xs n_ys n_kn n_ct n_rd (n_a x1.toNatClampNeg) (n_b x1.toNatClampNeg) (n_c x1.toNatClampNeg) x3 r7 hv9) (cwV 4 hts (gd_V bw_446 bw_448 bp_20 bw_5 bw_449) rfl rfl rfl ⟨rfl, hd_N_circle⟩ ⟨Nat.le_of_ble_eq_true rfl, Nat.le_of_ble_eq_true rfl⟩) (pv_r (wc := [(gN, .inr (4, [.ref bTh, .ref bXs, .ref bYs, .int n_kn, .int n_ct, .ref bA, .ref bB, .ref bC, .int n_rd, .ref bEd])), (bXs, .inl (cI, 20, .inl n_xs)), (bYs, .inl (cI, 20, .inl n_ys))]) hK hP [0, 2, 3] rfl 0 (ci := 4) rfl rfl) rfl rfl hl.1 rfl (lv_room (Nat.le_of_ble_eq_true rfl)) d_N_corners_58 ⟨Nat.zero_le _, Nat.zero_le _⟩) ?_
        refine lv_if_ne (tgt := 68) hx hb d_N_corners_61 (by decide) (fun hc10 => ?_) (fun hc10 => ?_)
        · have hf := o_f hf hc10
          exact t_N_corners_b68 C0 hK hA (k22 := (fun n_kn n_ct n_a n_b n_c x1 x2 x3 => f_N_corners_L22 n_th n_xs n_ys n n_kn n_ct n_a n_b n_c x1 x2 x3)) ih n_kn n_ct n_a n_b n_c x1 x3 x2 hf _ _ hP hD hS ls (lv_sub hl [0, 1, 3] rfl)
        · have hf := o_t hf hc10
          refine lv_iconst (v := (1 : Int32)) hx hb d_N_corners_64 rfl ?_
          refine lv_goto (tgt := 69) hx hb d_N_corners_65 (by decide) ?_
          exact t_N_corners_b69 C0 hK hA (k22 := (fun n_kn n_ct n_a n_b n_c x1 x2 x3 => f_N_corners_L22 n_th n_xs n_ys n n_kn n_ct n_a n_b n_c x1 x2 x3)) ih n_kn n_ct n_a n_b n_c x1 x3 x2 (1 : Int32) hf _ _ hP hD hS ls (lv_sub hl [0, 1, 3] rfl)
set_option maxHeartbeats 4000000 in
set_option maxRecDepth 100000 in
theorem t_N_corners_e {p : Program} {l : Launch} {e : Env} {s : State} {m : MethodId} {args : Array Value} {below : List Frame} {meth : Method} {c : Code} {dC : Nat → ClassId} {dI : Nat → Nat → Nat} {cI cZ : ClassId} {gN bTh bXs bYs bA bB bC bEd : Nat} {n_th : Nat → Int32} {n_xs : Nat → Int32} {n_ys : Nat → Int32} {n_rd : Int32} {rv : Int32} {n_kn' : Int32} {n_ct' : Int32} {n_a' : Nat → Int32} {n_b' : Nat → Int32} {n_c' : Nat → Int32} {A : Nat → Prop} (C0 : cx p s m args meth c b_N_corners (some .int) 4 R_N) (hK : gK dC dI cI cZ s) (hA : ∀ q, s.heap.size ≤ q → A q) : ∀ (n_kn : Int32) (n_ct : Int32) (n_a : Nat → Int32) (n_b : Nat → Int32) (n_c : Nat → Int32) (x1 : Int32), f_N_corners n_th n_xs n_ys n_kn n_ct n_a n_b n_c x1 = some (rv, n_kn', n_ct', n_a', n_b', n_c') → ∀ (H : Heap) (locs : List Loc), va_P (dC, dI) vwCl [(gN, .inr (4, [.ref bTh, .ref bXs, .ref bYs, .int n_kn, .int n_ct, .ref bA, .ref bB, .ref bC, .int n_rd, .ref bEd])), (bTh, .inl (cZ, 20, .inl n_th)), (bXs, .inl (cI, 20, .inl n_xs)), (bYs, .inl (cI, 20, .inl n_ys)), (bA, .inl (cI, 40, .inl n_a)), (bB, .inl (cI, 40, .inl n_b)), (bC, .inl (cI, 40, .inl n_c))] H → va_D A [(gN, .inr (4, [.ref bTh, .ref bXs, .ref bYs, .int n_kn, .int n_ct, .ref bA, .ref bB, .ref bC, .int n_rd, .ref bEd])), (bTh, .inl (cZ, 20, .inl n_th)), (bXs, .inl (cI, 20, .inl n_xs)), (bYs, .inl (cI, 20, .inl n_ys)), (bA, .inl (cI, 40, .inl n_a)), (bB, .inl (cI, 40, .inl n_b)), (bC, .inl (cI, 40, .inl n_c))] → va_S A s.heap H locs → ∀ (ls : Array Slot), lv_has ls 4 [(0, .ref gN), (1, .int x1)] → W p l e (headSpec w_N_corners ({ frames := 5, cells := 0, slots := 0, locals := 143 } : Room)).room s m args below meth c H locs 0 0 (MQ below (QwI dC dI A [(gN, .inr (4, [.ref bTh, .ref bXs, .ref bYs, .int n_kn', .int n_ct', .ref bA, .ref bB, .ref bC, .int n_rd, .ref bEd])), (bTh, .inl (cZ, 20, .inl n_th)), (bXs, .inl (cI, 20, .inl n_xs)), (bYs, .inl (cI, 20, .inl n_ys)), (bA, .inl (cI, 40, .inl n_a')), (bB, .inl (cI, 40, .inl n_b')), (bC, .inl (cI, 40, .inl n_c'))] rv) args s 0 0 A) (F0 m 0 ls []) := by
  obtain ⟨hx, hb, hr, hml, hts, hown, hlocks⟩ := id C0
  intro n_kn n_ct n_a n_b n_c x1 hf H locs hP hD hS ls hl
  refine lv_aload_n hx hb d_N_corners_0 rfl (lv_at hl 0 rfl) ?_
  obtain ⟨⟨r11, r12, r13, r14, r15⟩, hv17, hf⟩ := o_b hf
  refine wc_v (wr := []) (w1 := [(gN, .inr (4, [.ref bTh, .ref bXs, .ref bYs, .int r11, .int r12, .ref bA, .ref bB, .ref bC, .int n_rd, .ref bEd])), (bTh, .inl (cZ, 20, .inl n_th)), (bXs, .inl (cI, 20, .inl n_xs)), (bYs, .inl (cI, 20, .inl n_ys)), (bA, .inl (cI, 40, .inl r13)), (bB, .inl (cI, 40, .inl r14)), (bC, .inl (cI, 40, .inl r15))]) (va_runV (As := []) (rest := []) ⟨hx, hb, hml, hown, hts⟩ (c_N_work l dC dI cI cZ gN bTh bXs bYs bA bB bC bEd n_th n_xs n_ys n_kn n_ct n_a n_b n_c n_rd r11 r12 r13 r14 r15 H.size hv17) (cwV 0 hts (gd_V bw_426 bw_428 bp_15 bw_5 bw_429) rfl rfl rfl ⟨rfl, hd_N_work⟩ ⟨Nat.le_of_ble_eq_true rfl, Nat.le_of_ble_eq_true rfl⟩) (pv_w (wc := [(gN, .inr (4, [.ref bTh, .ref bXs, .ref bYs, .int n_kn, .int n_ct, .ref bA, .ref bB, .ref bC, .int n_rd, .ref bEd])), (bTh, .inl (cZ, 20, .inl n_th)), (bXs, .inl (cI, 20, .inl n_xs)), (bYs, .inl (cI, 20, .inl n_ys)), (bA, .inl (cI, 40, .inl n_a)), (bB, .inl (cI, 40, .inl n_b)), (bC, .inl (cI, 40, .inl n_c))]) hK hP hD [0, 1, 2, 3, 4, 5, 6] rfl rfl (by decide) 0 (ci := 4) rfl rfl) rfl rfl hl.1 rfl (lv_room (Nat.le_of_ble_eq_true rfl)) d_N_corners_1 ⟨Nat.zero_le _, Nat.zero_le _⟩) hP hD hS hA [0, 1, 2, 3, 4, 5, 6] [] rfl rfl (by decide) (by decide) (fun H locs hP hD hS => ?_)
  have hP : va_P (dC, dI) vwCl [(gN, .inr (4, [.ref bTh, .ref bXs, .ref bYs, .int r11, .int r12, .ref bA, .ref bB, .ref bC, .int n_rd, .ref bEd])), (bTh, .inl (cZ, 20, .inl n_th)), (bXs, .inl (cI, 20, .inl n_xs)), (bYs, .inl (cI, 20, .inl n_ys)), (bA, .inl (cI, 40, .inl r13)), (bB, .inl (cI, 40, .inl r14)), (bC, .inl (cI, 40, .inl r15))] H := hP.sub [0, 1, 2, 3, 4, 5, 6] rfl
  have hD : va_D A [(gN, .inr (4, [.ref bTh, .ref bXs, .ref bYs, .int r11, .int r12, .ref bA, .ref bB, .ref bC, .int n_rd, .ref bEd])), (bTh, .inl (cZ, 20, .inl n_th)), (bXs, .inl (cI, 20, .inl n_xs)), (bYs, .inl (cI, 20, .inl n_ys)), (bA, .inl (cI, 40, .inl r13)), (bB, .inl (cI, 40, .inl r14)), (bC, .inl (cI, 40, .inl r15))] := hD.sub [0, 1, 2, 3, 4, 5, 6] (by decide) rfl
  refine lv_iload_n hx hb d_N_corners_4 rfl (lv_at hl 1 rfl) ?_
  refine lv_if_lt (tgt := 16) hx hb d_N_corners_5 (by decide) (fun hc18 => ?_) (fun hc18 => ?_)
  · have hf := o_t hf hc18
    refine lv_iconst (v := (-1 : Int32)) hx hb d_N_corners_16 rfl ?_
    cases hf
    exact wr_i hx hb hr hlocks hP hD hS d_N_corners_17
  · have hf := o_f hf hc18
    refine lv_iload_n hx hb d_N_corners_8 rfl (lv_at hl 1 rfl) ?_
    refine lv_aload_n hx hb d_N_corners_9 rfl (lv_at hl 0 rfl) ?_
    refine va_get (D := (dC, dI)) (ci := 4) (v := .int r12) (C := R_N) (T := T_N) (N := 10) hx hb hts in_N hown hK.1 hP 0 rfl rfl 4 (by decide) (hts _ bw_361) (fun _ h9 => h9) rfl d_N_corners_10 ?_
    refine lv_icmp_lt (tgt := 18) hx hb d_N_corners_13 (by decide) (fun hc19 => ?_) (fun hc19 => ?_)
    · have hf := o_t hf hc19
      refine lv_iconst (v := (0 : Int32)) hx hb d_N_corners_18 rfl ?_
      refine lv_istore_n (lv' := [(2, .int (0 : Int32)), (0, .ref gN), (1, .int x1)]) hx hb d_N_corners_19 rfl hl (by decide) rfl (fun ls hl => ?_)
      refine lv_iconst (v := (0 : Int32)) hx hb d_N_corners_20 rfl ?_
      refine lv_istore_n (lv' := [(3, .int (0 : Int32)), (2, .int (0 : Int32)), (0, .ref gN), (1, .int x1)]) hx hb d_N_corners_21 rfl hl (by decide) rfl (fun ls hl => ?_)
      exact t_N_corners_L22 C0 hK hA  600 r11 r12 r13 r14 r15 x1 (0 : Int32) (0 : Int32) hf _ _ hP hD hS ls (lv_sub hl [2, 3, 1, 0] rfl)
    · have hf := o_f hf hc19
      refine lv_iconst (v := (-1 : Int32)) hx hb d_N_corners_16 rfl ?_
      cases hf
      exact wr_i hx hb hr hlocks hP hD hS d_N_corners_17
set_option maxHeartbeats 4000000 in
set_option maxRecDepth 100000 in
theorem c_N_corners (l : Launch) (dC : Nat → ClassId) (dI : Nat → Nat → Nat) (cI cZ : ClassId) (gN bTh bXs bYs bA bB bC bEd : Nat) (n_th : Nat → Int32) (n_xs : Nat → Int32) (n_ys : Nat → Int32) (n_kn : Int32) (n_ct : Int32) (n_a : Nat → Int32) (n_b : Nat → Int32) (n_c : Nat → Int32) (n_rd : Int32) (x1 : Int32) (rv : Int32) (n_kn' : Int32) (n_ct' : Int32) (n_a' : Nat → Int32) (n_b' : Nat → Int32) (n_c' : Nat → Int32) (sz : Nat) (hf : f_N_corners n_th n_xs n_ys n_kn n_ct n_a n_b n_c x1 = some (rv, n_kn', n_ct', n_a', n_b', n_c')) : Met l y_N_corners w_N_corners ({ frames := 5, cells := 0, slots := 0, locals := 143 } : Room) (PcW dC dI cI cZ [.ref gN, .int x1] [(gN, .inr (4, [.ref bTh, .ref bXs, .ref bYs, .int n_kn, .int n_ct, .ref bA, .ref bB, .ref bC, .int n_rd, .ref bEd])), (bTh, .inl (cZ, 20, .inl n_th)), (bXs, .inl (cI, 20, .inl n_xs)), (bYs, .inl (cI, 20, .inl n_ys)), (bA, .inl (cI, 40, .inl n_a)), (bB, .inl (cI, 40, .inl n_b)), (bC, .inl (cI, 40, .inl n_c))] sz) (QwI dC dI (va_A [(gN, .inr (4, [.ref bTh, .ref bXs, .ref bYs, .int n_kn, .int n_ct, .ref bA, .ref bB, .ref bC, .int n_rd, .ref bEd])), (bTh, .inl (cZ, 20, .inl n_th)), (bXs, .inl (cI, 20, .inl n_xs)), (bYs, .inl (cI, 20, .inl n_ys)), (bA, .inl (cI, 40, .inl n_a)), (bB, .inl (cI, 40, .inl n_b)), (bC, .inl (cI, 40, .inl n_c))] sz) [(gN, .inr (4, [.ref bTh, .ref bXs, .ref bYs, .int n_kn', .int n_ct', .ref bA, .ref bB, .ref bC, .int n_rd, .ref bEd])), (bTh, .inl (cZ, 20, .inl n_th)), (bXs, .inl (cI, 20, .inl n_xs)), (bYs, .inl (cI, 20, .inl n_ys)), (bA, .inl (cI, 40, .inl n_a')), (bB, .inl (cI, 40, .inl n_b')), (bC, .inl (cI, 40, .inl n_c'))] rv) 0 0 (va_A [(gN, .inr (4, [.ref bTh, .ref bXs, .ref bYs, .int n_kn, .int n_ct, .ref bA, .ref bB, .ref bC, .int n_rd, .ref bEd])), (bTh, .inl (cZ, 20, .inl n_th)), (bXs, .inl (cI, 20, .inl n_xs)), (bYs, .inl (cI, 20, .inl n_ys)), (bA, .inl (cI, 40, .inl n_a)), (bB, .inl (cI, 40, .inl n_b)), (bC, .inl (cI, 40, .inl n_c))] sz) := by
  refine Met.ofW (cc := b_N_corners) (maxL := 4) (ret := (some .int)) (by decide) rfl ?_
  intro p e s m args below meth c s₁ B hml hv
  obtain ⟨rfl, hsz, hP, hK, hD0⟩ := hv
  have C0 : cx p s m _ meth c b_N_corners (some .int) 4 R_N := ⟨B.exec, B.bytes, B.returns, hml, fun w hw => atoms_spec (ws := w_N_corners) B.pre w (List.mem_cons_of_mem _ hw), findClass_of_methodNamed B.named, B.notSynchronized⟩
  subst hsz
  have hD := hD0.self (sz := s.heap.size)
  generalize hAe : va_A [(gN, .inr (4, [.ref bTh, .ref bXs, .ref bYs, .int n_kn, .int n_ct, .ref bA, .ref bB, .ref bC, .int n_rd, .ref bEd])), (bTh, .inl (cZ, 20, .inl n_th)), (bXs, .inl (cI, 20, .inl n_xs)), (bYs, .inl (cI, 20, .inl n_ys)), (bA, .inl (cI, 40, .inl n_a)), (bB, .inl (cI, 40, .inl n_b)), (bC, .inl (cI, 40, .inl n_c))] s.heap.size = A at hD ⊢
  have hA : ∀ q : Nat, s.heap.size ≤ q → A q := fun q h => by rw [← hAe]; exact Or.inr h
  have hl := lv_entry ([.ref gN, .int x1]) (n := 4) (Nat.le_of_ble_eq_true rfl)
  rw [lg_entry_eq]
  generalize (lg_sl ([.ref gN, .int x1]) ++ List.replicate (4 - (lg_sl ([.ref gN, .int x1])).length) Slot.unset).toArray = ls at hl ⊢
  have hl : lv_has ls 4 [(0, .ref gN), (1, .int x1)] := hl
  exact t_N_corners_e C0 hK hA n_kn n_ct n_a n_b n_c x1 hf _ _ hP hD va_S.rf ls hl
set_option maxHeartbeats 4000000 in
set_option maxRecDepth 100000 in
theorem t_N_locate_L16 {p : Program} {l : Launch} {e : Env} {s : State} {m : MethodId} {args : Array Value} {below : List Frame} {meth : Method} {c : Code} {dC : Nat → ClassId} {dI : Nat → Nat → Nat} {cI cZ : ClassId} {gN bTh bXs bYs bA bB bC bEd : Nat} {n_th : Nat → Int32} {n_xs : Nat → Int32} {n_ys : Nat → Int32} {n_rd : Int32} {rv : Int32} {n_kn' : Int32} {n_ct' : Int32} {n_a' : Nat → Int32} {n_b' : Nat → Int32} {n_c' : Nat → Int32} {A : Nat → Prop} (C0 : cx p s m args meth c b_N_locate (some .int) 4 R_N) (hK : gK dC dI cI cZ s) (hA : ∀ q, s.heap.size ≤ q → A q) : ∀ (n : Nat) (n_kn : Int32) (n_ct : Int32) (n_a : Nat → Int32) (n_b : Nat → Int32) (n_c : Nat → Int32) (x1 : Int32) (x2 : Int32) (x3 : Int32), f_N_locate_L16 n_th n_xs n_ys n n_kn n_ct n_a n_b n_c x1 x2 x3 = some (rv, n_kn', n_ct', n_a', n_b', n_c') → ∀ (H : Heap) (locs : List Loc), va_P (dC, dI) vwCl [(gN, .inr (4, [.ref bTh, .ref bXs, .ref bYs, .int n_kn, .int n_ct, .ref bA, .ref bB, .ref bC, .int n_rd, .ref bEd])), (bTh, .inl (cZ, 20, .inl n_th)), (bXs, .inl (cI, 20, .inl n_xs)), (bYs, .inl (cI, 20, .inl n_ys)), (bA, .inl (cI, 40, .inl n_a)), (bB, .inl (cI, 40, .inl n_b)), (bC, .inl (cI, 40, .inl n_c))] H → va_D A [(gN, .inr (4, [.ref bTh, .ref bXs, .ref bYs, .int n_kn, .int n_ct, .ref bA, .ref bB, .ref bC, .int n_rd, .ref bEd])), (bTh, .inl (cZ, 20, .inl n_th)), (bXs, .inl (cI, 20, .inl n_xs)), (bYs, .inl (cI, 20, .inl n_ys)), (bA, .inl (cI, 40, .inl n_a)), (bB, .inl (cI, 40, .inl n_b)), (bC, .inl (cI, 40, .inl n_c))] → va_S A s.heap H locs → ∀ (ls : Array Slot), lv_has ls 4 [(0, .ref gN), (1, .int x1), (2, .int x2), (3, .int x3)] → W p l e (headSpec w_N_locate ({ frames := 5, cells := 0, slots := 0, locals := 143 } : Room)).room s m args below meth c H locs 0 0 (MQ below (QwI dC dI A [(gN, .inr (4, [.ref bTh, .ref bXs, .ref bYs, .int n_kn', .int n_ct', .ref bA, .ref bB, .ref bC, .int n_rd, .ref bEd])), (bTh, .inl (cZ, 20, .inl n_th)), (bXs, .inl (cI, 20, .inl n_xs)), (bYs, .inl (cI, 20, .inl n_ys)), (bA, .inl (cI, 40, .inl n_a')), (bB, .inl (cI, 40, .inl n_b')), (bC, .inl (cI, 40, .inl n_c'))] rv) args s 0 0 A) (F0 m 16 ls []) := by
  obtain ⟨hx, hb, hr, hml, hts, hown, hlocks⟩ := id C0
  intro n
  induction n with
  | zero =>
    intro n_kn n_ct n_a n_b n_c x1 x2 x3 hf
    exact (o_n hf).elim
  | succ n ih =>
    intro n_kn n_ct n_a n_b n_c x1 x2 x3 hf H locs hP hD hS ls hl
    refine lv_iload_n hx hb d_N_locate_16 rfl (lv_at hl 3 rfl) ?_
    refine lv_aload_n hx hb d_N_locate_17 rfl (lv_at hl 0 rfl) ?_
    refine va_get (D := (dC, dI)) (ci := 4) (v := .int n_ct) (C := R_N) (T := T_N) (N := 10) hx hb hts in_N hown hK.1 hP 0 rfl rfl 4 (by decide) (hts _ bw_361) (fun _ h9 => h9) rfl d_N_locate_18 ?_
    refine lv_icmp_ge (tgt := 95) hx hb d_N_locate_21 (by decide) (fun hc1 => ?_) (fun hc1 => ?_)
    · have hf := o_t hf hc1
      refine lv_iconst (v := (-1 : Int32)) hx hb d_N_locate_95 rfl ?_
      cases hf
      exact wr_i hx hb hr hlocks hP hD hS d_N_locate_96
    · have hf := o_f hf hc1
      refine lv_aload_n hx hb d_N_locate_24 rfl (lv_at hl 0 rfl) ?_
      refine lv_aload_n hx hb d_N_locate_25 rfl (lv_at hl 0 rfl) ?_
      refine va_get (D := (dC, dI)) (ci := 4) (v := .ref bA) (C := R_N) (T := T_N) (N := 10) hx hb hts in_N hown hK.1 hP 0 rfl rfl 5 (by decide) (hts _ bw_362) (fun _ h9 => h9) rfl d_N_locate_26 ?_
      refine lv_iload_n hx hb d_N_locate_29 rfl (lv_at hl 3 rfl) ?_
      obtain ⟨hi2, hf⟩ := o_i hf
      refine va_iald (cA := cI) (n := 40) (f := n_a) hx hb hK.1 hP 4 0 rfl rfl hi2 d_N_locate_30 ?_
      refine lv_aload_n hx hb d_N_locate_31 rfl (lv_at hl 0 rfl) ?_
      refine va_get (D := (dC, dI)) (ci := 4) (v := .ref bB) (C := R_N) (T := T_N) (N := 10) hx hb hts in_N hown hK.1 hP 0 rfl rfl 6 (by decide) (hts _ bw_363) (fun _ h9 => h9) rfl d_N_locate_32 ?_
      refine lv_iload_n hx hb d_N_locate_35 rfl (lv_at hl 3 rfl) ?_
      obtain ⟨hi3, hf⟩ := o_i hf
      refine va_iald (cA := cI) (n := 40) (f := n_b) hx hb hK.1 hP 5 0 rfl rfl hi3 d_N_locate_36 ?_
      refine lv_iload_n hx hb d_N_locate_37 rfl (lv_at hl 1 rfl) ?_
      refine lv_iload_n hx hb d_N_locate_38 rfl (lv_at hl 2 rfl) ?_
      obtain ⟨r4, hv6, hf⟩ := o_b hf
      refine rc_i (va_runV (As := [.int (n_a x3.toNatClampNeg), .int (n_b x3.toNatClampNeg), .int x1, .int x2]) (rest := []) ⟨hx, hb, hml, hown, hts⟩ (c_N_sideOf l dC dI cI cZ gN bTh bXs bYs bA bB bC bEd n_xs n_ys n_kn n_ct n_rd (n_a x3.toNatClampNeg) (n_b x3.toNatClampNeg) x1 x2 r4 hv6) (cwV 4 hts (gd_V bw_438 bw_440 bp_18 bw_5 bw_441) rfl rfl rfl ⟨rfl, hd_N_sideOf⟩ ⟨Nat.le_of_ble_eq_true rfl, Nat.le_of_ble_eq_true rfl⟩) (pv_r (wc := [(gN, .inr (4, [.ref bTh, .ref bXs, .ref bYs, .int n_kn, .int n_ct, .ref bA, .ref bB, .ref bC, .int n_rd, .ref bEd])), (bXs, .inl (cI, 20, .inl n_xs)), (bYs, .inl (cI, 20, .inl n_ys))]) hK hP [0, 2, 3] rfl 0 (ci := 4) rfl rfl) rfl rfl hl.1 rfl (lv_room (Nat.le_of_ble_eq_true rfl)) d_N_locate_39 ⟨Nat.zero_le _, Nat.zero_le _⟩) ?_
      refine lv_if_lt (tgt := 89) hx hb d_N_locate_42 (by decide) (fun hc7 => ?_) (fun hc7 => ?_)
      · have hf := o_t hf hc7
        refine lv_iinc (v := (x3 + 1)) (lv' := [(3, .int (x3 + 1)), (0, .ref gN), (1, .int x1), (2, .int x2)]) hx hb d_N_locate_89 hl (k := 3) rfl rfl (by decide) rfl (fun ls hl => ?_)
        refine lv_goto (tgt := 16) hx hb d_N_locate_92 (by decide) ?_
        exact ih n_kn n_ct n_a n_b n_c x1 x2 (x3 + 1) hf _ _ hP hD hS ls (lv_sub hl [1, 2, 3, 0] rfl)
      · have hf := o_f hf hc7
        refine lv_aload_n hx hb d_N_locate_45 rfl (lv_at hl 0 rfl) ?_
        refine lv_aload_n hx hb d_N_locate_46 rfl (lv_at hl 0 rfl) ?_
        refine va_get (D := (dC, dI)) (ci := 4) (v := .ref bB) (C := R_N) (T := T_N) (N := 10) hx hb hts in_N hown hK.1 hP 0 rfl rfl 6 (by decide) (hts _ bw_363) (fun _ h9 => h9) rfl d_N_locate_47 ?_
        refine lv_iload_n hx hb d_N_locate_50 rfl (lv_at hl 3 rfl) ?_
        obtain ⟨hi8, hf⟩ := o_i hf
        refine va_iald (cA := cI) (n := 40) (f := n_b) hx hb hK.1 hP 5 0 rfl rfl hi8 d_N_locate_51 ?_
        refine lv_aload_n hx hb d_N_locate_52 rfl (lv_at hl 0 rfl) ?_
        refine va_get (D := (dC, dI)) (ci := 4) (v := .ref bC) (C := R_N) (T := T_N) (N := 10) hx hb hts in_N hown hK.1 hP 0 rfl rfl 7 (by decide) (hts _ bw_364) (fun _ h9 => h9) rfl d_N_locate_53 ?_
        refine lv_iload_n hx hb d_N_locate_56 rfl (lv_at hl 3 rfl) ?_
        obtain ⟨hi9, hf⟩ := o_i hf
        refine va_iald (cA := cI) (n := 40) (f := n_c) hx hb hK.1 hP 6 0 rfl rfl hi9 d_N_locate_57 ?_
        refine lv_iload_n hx hb d_N_locate_58 rfl (lv_at hl 1 rfl) ?_
        refine lv_iload_n hx hb d_N_locate_59 rfl (lv_at hl 2 rfl) ?_
        obtain ⟨r10, hv12, hf⟩ := o_b hf
        refine rc_i (va_runV (As := [.int (n_b x3.toNatClampNeg), .int (n_c x3.toNatClampNeg), .int x1, .int x2]) (rest := []) ⟨hx, hb, hml, hown, hts⟩ (c_N_sideOf l dC dI cI cZ gN bTh bXs bYs bA bB bC bEd n_xs n_ys n_kn n_ct n_rd (n_b x3.toNatClampNeg) (n_c x3.toNatClampNeg) x1 x2 r10 hv12) (cwV 4 hts (gd_V bw_438 bw_440 bp_18 bw_5 bw_441) rfl rfl rfl ⟨rfl, hd_N_sideOf⟩ ⟨Nat.le_of_ble_eq_true rfl, Nat.le_of_ble_eq_true rfl⟩) (pv_r (wc := [(gN, .inr (4, [.ref bTh, .ref bXs, .ref bYs, .int n_kn, .int n_ct, .ref bA, .ref bB, .ref bC, .int n_rd, .ref bEd])), (bXs, .inl (cI, 20, .inl n_xs)), (bYs, .inl (cI, 20, .inl n_ys))]) hK hP [0, 2, 3] rfl 0 (ci := 4) rfl rfl) rfl rfl hl.1 rfl (lv_room (Nat.le_of_ble_eq_true rfl)) d_N_locate_60 ⟨Nat.zero_le _, Nat.zero_le _⟩) ?_
        refine lv_if_lt (tgt := 89) hx hb d_N_locate_63 (by decide) (fun hc13 => ?_) (fun hc13 => ?_)
        · have hf := o_t hf hc13
          refine lv_iinc (v := (x3 + 1)) (lv' := [(3, .int (x3 + 1)), (0, .ref gN), (1, .int x1), (2, .int x2)]) hx hb d_N_locate_89 hl (k := 3) rfl rfl (by decide) rfl (fun ls hl => ?_)
          refine lv_goto (tgt := 16) hx hb d_N_locate_92 (by decide) ?_
          exact ih n_kn n_ct n_a n_b n_c x1 x2 (x3 + 1) hf _ _ hP hD hS ls (lv_sub hl [1, 2, 3, 0] rfl)
        · have hf := o_f hf hc13
          refine lv_aload_n hx hb d_N_locate_66 rfl (lv_at hl 0 rfl) ?_
          refine lv_aload_n hx hb d_N_locate_67 rfl (lv_at hl 0 rfl) ?_
          refine va_get (D := (dC, dI)) (ci := 4) (v := .ref bC) (C := R_N) (T := T_N) (N := 10) hx hb hts in_N hown hK.1 hP 0 rfl rfl 7 (by decide) (hts _ bw_364) (fun _ h9 => h9) rfl d_N_locate_68 ?_
          refine lv_iload_n hx hb d_N_locate_71 rfl (lv_at hl 3 rfl) ?_
          obtain ⟨hi14, hf⟩ := o_i hf
          refine va_iald (cA := cI) (n := 40) (f := n_c) hx hb hK.1 hP 6 0 rfl rfl hi14 d_N_locate_72 ?_
          refine lv_aload_n hx hb d_N_locate_73 rfl (lv_at hl 0 rfl) ?_
          refine va_get (D := (dC, dI)) (ci := 4) (v := .ref bA) (C := R_N) (T := T_N) (N := 10) hx hb hts in_N hown hK.1 hP 0 rfl rfl 5 (by decide) (hts _ bw_362) (fun _ h9 => h9) rfl d_N_locate_74 ?_
          refine lv_iload_n hx hb d_N_locate_77 rfl (lv_at hl 3 rfl) ?_
          obtain ⟨hi15, hf⟩ := o_i hf
          refine va_iald (cA := cI) (n := 40) (f := n_a) hx hb hK.1 hP 4 0 rfl rfl hi15 d_N_locate_78 ?_
          refine lv_iload_n hx hb d_N_locate_79 rfl (lv_at hl 1 rfl) ?_
          refine lv_iload_n hx hb d_N_locate_80 rfl (lv_at hl 2 rfl) ?_
          obtain ⟨r16, hv18, hf⟩ := o_b hf
          refine rc_i (va_runV (As := [.int (n_c x3.toNatClampNeg), .int (n_a x3.toNatClampNeg), .int x1, .int x2]) (rest := []) ⟨hx, hb, hml, hown, hts⟩ (c_N_sideOf l dC dI cI cZ gN bTh bXs bYs bA bB bC bEd n_xs n_ys n_kn n_ct n_rd (n_c x3.toNatClampNeg) (n_a x3.toNatClampNeg) x1 x2 r16 hv18) (cwV 4 hts (gd_V bw_438 bw_440 bp_18 bw_5 bw_441) rfl rfl rfl ⟨rfl, hd_N_sideOf⟩ ⟨Nat.le_of_ble_eq_true rfl, Nat.le_of_ble_eq_true rfl⟩) (pv_r (wc := [(gN, .inr (4, [.ref bTh, .ref bXs, .ref bYs, .int n_kn, .int n_ct, .ref bA, .ref bB, .ref bC, .int n_rd, .ref bEd])), (bXs, .inl (cI, 20, .inl n_xs)), (bYs, .inl (cI, 20, .inl n_ys))]) hK hP [0, 2, 3] rfl 0 (ci := 4) rfl rfl) rfl rfl hl.1 rfl (lv_room (Nat.le_of_ble_eq_true rfl)) d_N_locate_81 ⟨Nat.zero_le _, Nat.zero_le _⟩) ?_
          refine lv_if_lt (tgt := 89) hx hb d_N_locate_84 (by decide) (fun hc19 => ?_) (fun hc19 => ?_)
          · have hf := o_t hf hc19
            refine lv_iinc (v := (x3 + 1)) (lv' := [(3, .int (x3 + 1)), (0, .ref gN), (1, .int x1), (2, .int x2)]) hx hb d_N_locate_89 hl (k := 3) rfl rfl (by decide) rfl (fun ls hl => ?_)
            refine lv_goto (tgt := 16) hx hb d_N_locate_92 (by decide) ?_
            exact ih n_kn n_ct n_a n_b n_c x1 x2 (x3 + 1) hf _ _ hP hD hS ls (lv_sub hl [1, 2, 3, 0] rfl)
          · have hf := o_f hf hc19
            refine lv_iload_n hx hb d_N_locate_87 rfl (lv_at hl 3 rfl) ?_
            cases hf
            exact wr_i hx hb hr hlocks hP hD hS d_N_locate_88
set_option maxHeartbeats 4000000 in
set_option maxRecDepth 100000 in
theorem t_N_locate_e {p : Program} {l : Launch} {e : Env} {s : State} {m : MethodId} {args : Array Value} {below : List Frame} {meth : Method} {c : Code} {dC : Nat → ClassId} {dI : Nat → Nat → Nat} {cI cZ : ClassId} {gN bTh bXs bYs bA bB bC bEd : Nat} {n_th : Nat → Int32} {n_xs : Nat → Int32} {n_ys : Nat → Int32} {n_rd : Int32} {rv : Int32} {n_kn' : Int32} {n_ct' : Int32} {n_a' : Nat → Int32} {n_b' : Nat → Int32} {n_c' : Nat → Int32} {A : Nat → Prop} (C0 : cx p s m args meth c b_N_locate (some .int) 4 R_N) (hK : gK dC dI cI cZ s) (hA : ∀ q, s.heap.size ≤ q → A q) : ∀ (n_kn : Int32) (n_ct : Int32) (n_a : Nat → Int32) (n_b : Nat → Int32) (n_c : Nat → Int32) (x1 : Int32) (x2 : Int32), f_N_locate n_th n_xs n_ys n_kn n_ct n_a n_b n_c x1 x2 = some (rv, n_kn', n_ct', n_a', n_b', n_c') → ∀ (H : Heap) (locs : List Loc), va_P (dC, dI) vwCl [(gN, .inr (4, [.ref bTh, .ref bXs, .ref bYs, .int n_kn, .int n_ct, .ref bA, .ref bB, .ref bC, .int n_rd, .ref bEd])), (bTh, .inl (cZ, 20, .inl n_th)), (bXs, .inl (cI, 20, .inl n_xs)), (bYs, .inl (cI, 20, .inl n_ys)), (bA, .inl (cI, 40, .inl n_a)), (bB, .inl (cI, 40, .inl n_b)), (bC, .inl (cI, 40, .inl n_c))] H → va_D A [(gN, .inr (4, [.ref bTh, .ref bXs, .ref bYs, .int n_kn, .int n_ct, .ref bA, .ref bB, .ref bC, .int n_rd, .ref bEd])), (bTh, .inl (cZ, 20, .inl n_th)), (bXs, .inl (cI, 20, .inl n_xs)), (bYs, .inl (cI, 20, .inl n_ys)), (bA, .inl (cI, 40, .inl n_a)), (bB, .inl (cI, 40, .inl n_b)), (bC, .inl (cI, 40, .inl n_c))] → va_S A s.heap H locs → ∀ (ls : Array Slot), lv_has ls 4 [(0, .ref gN), (1, .int x1), (2, .int x2)] → W p l e (headSpec w_N_locate ({ frames := 5, cells := 0, slots := 0, locals := 143 } : Room)).room s m args below meth c H locs 0 0 (MQ below (QwI dC dI A [(gN, .inr (4, [.ref bTh, .ref bXs, .ref bYs, .int n_kn', .int n_ct', .ref bA, .ref bB, .ref bC, .int n_rd, .ref bEd])), (bTh, .inl (cZ, 20, .inl n_th)), (bXs, .inl (cI, 20, .inl n_xs)), (bYs, .inl (cI, 20, .inl n_ys)), (bA, .inl (cI, 40, .inl n_a')), (bB, .inl (cI, 40, .inl n_b')), (bC, .inl (cI, 40, .inl n_c'))] rv) args s 0 0 A) (F0 m 0 ls []) := by
  obtain ⟨hx, hb, hr, hml, hts, hown, hlocks⟩ := id C0
  intro n_kn n_ct n_a n_b n_c x1 x2 hf H locs hP hD hS ls hl
  refine lv_aload_n hx hb d_N_locate_0 rfl (lv_at hl 0 rfl) ?_
  obtain ⟨⟨r20, r21, r22, r23, r24⟩, hv26, hf⟩ := o_b hf
  refine wc_v (wr := []) (w1 := [(gN, .inr (4, [.ref bTh, .ref bXs, .ref bYs, .int r20, .int r21, .ref bA, .ref bB, .ref bC, .int n_rd, .ref bEd])), (bTh, .inl (cZ, 20, .inl n_th)), (bXs, .inl (cI, 20, .inl n_xs)), (bYs, .inl (cI, 20, .inl n_ys)), (bA, .inl (cI, 40, .inl r22)), (bB, .inl (cI, 40, .inl r23)), (bC, .inl (cI, 40, .inl r24))]) (va_runV (As := []) (rest := []) ⟨hx, hb, hml, hown, hts⟩ (c_N_work l dC dI cI cZ gN bTh bXs bYs bA bB bC bEd n_th n_xs n_ys n_kn n_ct n_a n_b n_c n_rd r20 r21 r22 r23 r24 H.size hv26) (cwV 0 hts (gd_V bw_426 bw_428 bp_15 bw_5 bw_429) rfl rfl rfl ⟨rfl, hd_N_work⟩ ⟨Nat.le_of_ble_eq_true rfl, Nat.le_of_ble_eq_true rfl⟩) (pv_w (wc := [(gN, .inr (4, [.ref bTh, .ref bXs, .ref bYs, .int n_kn, .int n_ct, .ref bA, .ref bB, .ref bC, .int n_rd, .ref bEd])), (bTh, .inl (cZ, 20, .inl n_th)), (bXs, .inl (cI, 20, .inl n_xs)), (bYs, .inl (cI, 20, .inl n_ys)), (bA, .inl (cI, 40, .inl n_a)), (bB, .inl (cI, 40, .inl n_b)), (bC, .inl (cI, 40, .inl n_c))]) hK hP hD [0, 1, 2, 3, 4, 5, 6] rfl rfl (by decide) 0 (ci := 4) rfl rfl) rfl rfl hl.1 rfl (lv_room (Nat.le_of_ble_eq_true rfl)) d_N_locate_1 ⟨Nat.zero_le _, Nat.zero_le _⟩) hP hD hS hA [0, 1, 2, 3, 4, 5, 6] [] rfl rfl (by decide) (by decide) (fun H locs hP hD hS => ?_)
  have hP : va_P (dC, dI) vwCl [(gN, .inr (4, [.ref bTh, .ref bXs, .ref bYs, .int r20, .int r21, .ref bA, .ref bB, .ref bC, .int n_rd, .ref bEd])), (bTh, .inl (cZ, 20, .inl n_th)), (bXs, .inl (cI, 20, .inl n_xs)), (bYs, .inl (cI, 20, .inl n_ys)), (bA, .inl (cI, 40, .inl r22)), (bB, .inl (cI, 40, .inl r23)), (bC, .inl (cI, 40, .inl r24))] H := hP.sub [0, 1, 2, 3, 4, 5, 6] rfl
  have hD : va_D A [(gN, .inr (4, [.ref bTh, .ref bXs, .ref bYs, .int r20, .int r21, .ref bA, .ref bB, .ref bC, .int n_rd, .ref bEd])), (bTh, .inl (cZ, 20, .inl n_th)), (bXs, .inl (cI, 20, .inl n_xs)), (bYs, .inl (cI, 20, .inl n_ys)), (bA, .inl (cI, 40, .inl r22)), (bB, .inl (cI, 40, .inl r23)), (bC, .inl (cI, 40, .inl r24))] := hD.sub [0, 1, 2, 3, 4, 5, 6] (by decide) rfl
  refine lv_iload_n hx hb d_N_locate_4 rfl (lv_at hl 1 rfl) ?_
  refine lv_iload_n hx hb d_N_locate_5 rfl (lv_at hl 2 rfl) ?_
  obtain ⟨r27, hv29, hf⟩ := o_b hf
  refine rc_i (va_runS (As := [.int x1, .int x2]) (rest := []) ⟨hx, hb, hml, hown, hts⟩ (c_N_outside l dC dI cI cZ x1 x2 r27 hv29) (va_cwS 2 hts (gd_S bw_392 bw_393 bw_5 bw_394) rfl rfl rfl hd_N_outside ⟨Nat.le_of_ble_eq_true rfl, Nat.le_of_ble_eq_true rfl⟩) (ps_r (wc := []) hK hP [] rfl) rfl rfl hl.1 rfl (lv_room (Nat.le_of_ble_eq_true rfl)) d_N_locate_6 ⟨Nat.zero_le _, Nat.zero_le _⟩) ?_
  refine lv_if_eq (tgt := 14) hx hb d_N_locate_9 (by decide) (fun hc30 => ?_) (fun hc30 => ?_)
  · have hf := o_t hf hc30
    refine lv_iconst (v := (0 : Int32)) hx hb d_N_locate_14 rfl ?_
    refine lv_istore_n (lv' := [(3, .int (0 : Int32)), (0, .ref gN), (1, .int x1), (2, .int x2)]) hx hb d_N_locate_15 rfl hl (by decide) rfl (fun ls hl => ?_)
    exact t_N_locate_L16 C0 hK hA  600 r20 r21 r22 r23 r24 x1 x2 (0 : Int32) hf _ _ hP hD hS ls (lv_sub hl [1, 2, 3, 0] rfl)
  · have hf := o_f hf hc30
    refine lv_iconst (v := (-1 : Int32)) hx hb d_N_locate_12 rfl ?_
    cases hf
    exact wr_i hx hb hr hlocks hP hD hS d_N_locate_13
set_option maxHeartbeats 4000000 in
set_option maxRecDepth 100000 in
theorem c_N_locate (l : Launch) (dC : Nat → ClassId) (dI : Nat → Nat → Nat) (cI cZ : ClassId) (gN bTh bXs bYs bA bB bC bEd : Nat) (n_th : Nat → Int32) (n_xs : Nat → Int32) (n_ys : Nat → Int32) (n_kn : Int32) (n_ct : Int32) (n_a : Nat → Int32) (n_b : Nat → Int32) (n_c : Nat → Int32) (n_rd : Int32) (x1 : Int32) (x2 : Int32) (rv : Int32) (n_kn' : Int32) (n_ct' : Int32) (n_a' : Nat → Int32) (n_b' : Nat → Int32) (n_c' : Nat → Int32) (sz : Nat) (hf : f_N_locate n_th n_xs n_ys n_kn n_ct n_a n_b n_c x1 x2 = some (rv, n_kn', n_ct', n_a', n_b', n_c')) : Met l y_N_locate w_N_locate ({ frames := 5, cells := 0, slots := 0, locals := 143 } : Room) (PcW dC dI cI cZ [.ref gN, .int x1, .int x2] [(gN, .inr (4, [.ref bTh, .ref bXs, .ref bYs, .int n_kn, .int n_ct, .ref bA, .ref bB, .ref bC, .int n_rd, .ref bEd])), (bTh, .inl (cZ, 20, .inl n_th)), (bXs, .inl (cI, 20, .inl n_xs)), (bYs, .inl (cI, 20, .inl n_ys)), (bA, .inl (cI, 40, .inl n_a)), (bB, .inl (cI, 40, .inl n_b)), (bC, .inl (cI, 40, .inl n_c))] sz) (QwI dC dI (va_A [(gN, .inr (4, [.ref bTh, .ref bXs, .ref bYs, .int n_kn, .int n_ct, .ref bA, .ref bB, .ref bC, .int n_rd, .ref bEd])), (bTh, .inl (cZ, 20, .inl n_th)), (bXs, .inl (cI, 20, .inl n_xs)), (bYs, .inl (cI, 20, .inl n_ys)), (bA, .inl (cI, 40, .inl n_a)), (bB, .inl (cI, 40, .inl n_b)), (bC, .inl (cI, 40, .inl n_c))] sz) [(gN, .inr (4, [.ref bTh, .ref bXs, .ref bYs, .int n_kn', .int n_ct', .ref bA, .ref bB, .ref bC, .int n_rd, .ref bEd])), (bTh, .inl (cZ, 20, .inl n_th)), (bXs, .inl (cI, 20, .inl n_xs)), (bYs, .inl (cI, 20, .inl n_ys)), (bA, .inl (cI, 40, .inl n_a')), (bB, .inl (cI, 40, .inl n_b')), (bC, .inl (cI, 40, .inl n_c'))] rv) 0 0 (va_A [(gN, .inr (4, [.ref bTh, .ref bXs, .ref bYs, .int n_kn, .int n_ct, .ref bA, .ref bB, .ref bC, .int n_rd, .ref bEd])), (bTh, .inl (cZ, 20, .inl n_th)), (bXs, .inl (cI, 20, .inl n_xs)), (bYs, .inl (cI, 20, .inl n_ys)), (bA, .inl (cI, 40, .inl n_a)), (bB, .inl (cI, 40, .inl n_b)), (bC, .inl (cI, 40, .inl n_c))] sz) := by
  refine Met.ofW (cc := b_N_locate) (maxL := 4) (ret := (some .int)) (by decide) rfl ?_
  intro p e s m args below meth c s₁ B hml hv
  obtain ⟨rfl, hsz, hP, hK, hD0⟩ := hv
  have C0 : cx p s m _ meth c b_N_locate (some .int) 4 R_N := ⟨B.exec, B.bytes, B.returns, hml, fun w hw => atoms_spec (ws := w_N_locate) B.pre w (List.mem_cons_of_mem _ hw), findClass_of_methodNamed B.named, B.notSynchronized⟩
  subst hsz
  have hD := hD0.self (sz := s.heap.size)
  generalize hAe : va_A [(gN, .inr (4, [.ref bTh, .ref bXs, .ref bYs, .int n_kn, .int n_ct, .ref bA, .ref bB, .ref bC, .int n_rd, .ref bEd])), (bTh, .inl (cZ, 20, .inl n_th)), (bXs, .inl (cI, 20, .inl n_xs)), (bYs, .inl (cI, 20, .inl n_ys)), (bA, .inl (cI, 40, .inl n_a)), (bB, .inl (cI, 40, .inl n_b)), (bC, .inl (cI, 40, .inl n_c))] s.heap.size = A at hD ⊢
  have hA : ∀ q : Nat, s.heap.size ≤ q → A q := fun q h => by rw [← hAe]; exact Or.inr h
  have hl := lv_entry ([.ref gN, .int x1, .int x2]) (n := 4) (Nat.le_of_ble_eq_true rfl)
  rw [lg_entry_eq]
  generalize (lg_sl ([.ref gN, .int x1, .int x2]) ++ List.replicate (4 - (lg_sl ([.ref gN, .int x1, .int x2])).length) Slot.unset).toArray = ls at hl ⊢
  have hl : lv_has ls 4 [(0, .ref gN), (1, .int x1), (2, .int x2)] := hl
  exact t_N_locate_e C0 hK hA n_kn n_ct n_a n_b n_c x1 x2 hf _ _ hP hD va_S.rf ls hl
set_option maxHeartbeats 4000000 in
set_option maxRecDepth 100000 in
theorem t_N_nearest_b84 {p : Program} {l : Launch} {e : Env} {s : State} {m : MethodId} {args : Array Value} {below : List Frame} {meth : Method} {c : Code} {dC : Nat → ClassId} {dI : Nat → Nat → Nat} {cI cZ : ClassId} {gN bTh bXs bYs bA bB bC bEd : Nat} {n_th : Nat → Int32} {n_xs : Nat → Int32} {n_ys : Nat → Int32} {n_kn : Int32} {n_ct : Int32} {n_rd : Int32} {rv : Int32} (C0 : cx p s m args meth c b_N_nearest (some .int) 13 R_N) (hK : gK dC dI cI cZ s) (hP : va_P (dC, dI) vwCl [(gN, .inr (4, [.ref bTh, .ref bXs, .ref bYs, .int n_kn, .int n_ct, .ref bA, .ref bB, .ref bC, .int n_rd, .ref bEd])), (bTh, .inl (cZ, 20, .inl n_th)), (bXs, .inl (cI, 20, .inl n_xs)), (bYs, .inl (cI, 20, .inl n_ys))] s.heap) {k18 : Int32 → Int32 → Int32 → Int64 → Int32 → Option (Int32)} (hk18 : ∀ (x1 : Int32) (x2 : Int32) (x3 : Int32) (x4 : Int64) (x6 : Int32), k18 x1 x2 x3 x4 x6 = some rv → ∀ (ls : Array Slot), lv_has ls 13 [(0, .ref gN), (1, .int x1), (2, .int x2), (3, .int x3), (4, .long x4), (6, .int x6)] → W p l e (headSpec w_N_nearest ({ frames := 1, cells := 0, slots := 0, locals := 21 } : Room)).room s m args below meth c s.heap [] 0 0 (MQ below (vp_Si (fun r => r = rv)) args s 0 0 (fun _ => False)) (F0 m 18 ls [])) : ∀ (x1 : Int32) (x2 : Int32) (x6 : Int32) (x11 : Int64), f_N_nearest_b84 k18 n_th n_xs n_ys x1 x2 x6 x11 = some rv → ∀ (ls : Array Slot), lv_has ls 13 [(0, .ref gN), (1, .int x1), (2, .int x2), (6, .int x6), (11, .long x11)] → W p l e (headSpec w_N_nearest ({ frames := 1, cells := 0, slots := 0, locals := 21 } : Room)).room s m args below meth c s.heap [] 0 0 (MQ below (vp_Si (fun r => r = rv)) args s 0 0 (fun _ => False)) (F0 m 84 ls []) := by
  obtain ⟨hx, hb, hr, hml, hts, hown, hlocks⟩ := id C0
  intro x1 x2 x6 x11 hf ls hl
  refine lv_iload hx hb d_N_nearest_84 (lv_at hl 3 rfl) ?_
  refine lv_istore_n (lv' := [(3, .int x6), (0, .ref gN), (1, .int x1), (2, .int x2), (6, .int x6), (11, .long x11)]) hx hb d_N_nearest_86 rfl hl (by decide) rfl (fun ls hl => ?_)
  refine lv_lload hx hb d_N_nearest_87 (lv_at hl 5 rfl) ?_
  refine lv_lstore (lv' := [(4, .long x11), (3, .int x6), (0, .ref gN), (1, .int x1), (2, .int x2), (6, .int x6), (11, .long x11)]) hx hb d_N_nearest_89 hl (by decide) rfl (fun ls hl => ?_)
  refine lv_iinc (v := (x6 + 1)) (lv' := [(6, .int (x6 + 1)), (4, .long x11), (3, .int x6), (0, .ref gN), (1, .int x1), (2, .int x2), (11, .long x11)]) hx hb d_N_nearest_91 hl (k := 5) rfl rfl (by decide) rfl (fun ls hl => ?_)
  refine lv_goto (tgt := 18) hx hb d_N_nearest_94 (by decide) ?_
  exact hk18 x1 x2 x6 x11 (x6 + 1) hf ls (lv_sub hl [3, 4, 5, 2, 1, 0] rfl)
set_option maxHeartbeats 4000000 in
set_option maxRecDepth 100000 in
theorem t_N_nearest_L18 {p : Program} {l : Launch} {e : Env} {s : State} {m : MethodId} {args : Array Value} {below : List Frame} {meth : Method} {c : Code} {dC : Nat → ClassId} {dI : Nat → Nat → Nat} {cI cZ : ClassId} {gN bTh bXs bYs bA bB bC bEd : Nat} {n_th : Nat → Int32} {n_xs : Nat → Int32} {n_ys : Nat → Int32} {n_kn : Int32} {n_ct : Int32} {n_rd : Int32} {rv : Int32} (C0 : cx p s m args meth c b_N_nearest (some .int) 13 R_N) (hK : gK dC dI cI cZ s) (hP : va_P (dC, dI) vwCl [(gN, .inr (4, [.ref bTh, .ref bXs, .ref bYs, .int n_kn, .int n_ct, .ref bA, .ref bB, .ref bC, .int n_rd, .ref bEd])), (bTh, .inl (cZ, 20, .inl n_th)), (bXs, .inl (cI, 20, .inl n_xs)), (bYs, .inl (cI, 20, .inl n_ys))] s.heap) : ∀ (n : Nat) (x1 : Int32) (x2 : Int32) (x3 : Int32) (x4 : Int64) (x6 : Int32), f_N_nearest_L18 n_th n_xs n_ys n x1 x2 x3 x4 x6 = some rv → ∀ (ls : Array Slot), lv_has ls 13 [(0, .ref gN), (1, .int x1), (2, .int x2), (3, .int x3), (4, .long x4), (6, .int x6)] → W p l e (headSpec w_N_nearest ({ frames := 1, cells := 0, slots := 0, locals := 21 } : Room)).room s m args below meth c s.heap [] 0 0 (MQ below (vp_Si (fun r => r = rv)) args s 0 0 (fun _ => False)) (F0 m 18 ls []) := by
  obtain ⟨hx, hb, hr, hml, hts, hown, hlocks⟩ := id C0
  intro n
  induction n with
  | zero =>
    intro x1 x2 x3 x4 x6 hf
    exact (o_n hf).elim
  | succ n ih =>
    intro x1 x2 x3 x4 x6 hf ls hl
    refine lv_iload hx hb d_N_nearest_18 (lv_at hl 5 rfl) ?_
    refine lv_bipush (v := (20 : Int32)) hx hb d_N_nearest_20 rfl ?_
    refine lv_icmp_ge (tgt := 97) hx hb d_N_nearest_22 (by decide) (fun hc1 => ?_) (fun hc1 => ?_)
    · have hf := o_t hf hc1
      refine lv_iload_n hx hb d_N_nearest_97 rfl (lv_at hl 3 rfl) ?_
      cases hf
      exact rr_i hx hb hr hlocks d_N_nearest_98
    · have hf := o_f hf hc1
      refine lv_aload_n hx hb d_N_nearest_25 rfl (lv_at hl 0 rfl) ?_
      refine va_get (D := (dC, dI)) (ci := 4) (v := .ref bXs) (C := R_N) (T := T_N) (N := 10) hx hb hts in_N hown hK.1 hP 0 rfl rfl 1 (by decide) (hts _ bw_358) (fun _ h9 => h9) rfl d_N_nearest_26 ?_
      refine lv_iload hx hb d_N_nearest_29 (lv_at hl 5 rfl) ?_
      obtain ⟨hi2, hf⟩ := o_i hf
      refine va_iald (cA := cI) (n := 20) (f := n_xs) hx hb hK.1 hP 2 0 rfl rfl hi2 d_N_nearest_31 ?_
      refine lv_iload_n hx hb d_N_nearest_32 rfl (lv_at hl 1 rfl) ?_
      refine lv_isub hx hb d_N_nearest_33 ?_
      refine lv_i2l hx hb d_N_nearest_34 rfl ?_
      refine lv_lstore (lv' := [(7, .long ((n_xs x6.toNatClampNeg) - x1).toInt64), (0, .ref gN), (1, .int x1), (2, .int x2), (3, .int x3), (4, .long x4), (6, .int x6)]) hx hb d_N_nearest_35 hl (by decide) rfl (fun ls hl => ?_)
      refine lv_aload_n hx hb d_N_nearest_37 rfl (lv_at hl 1 rfl) ?_
      refine va_get (D := (dC, dI)) (ci := 4) (v := .ref bYs) (C := R_N) (T := T_N) (N := 10) hx hb hts in_N hown hK.1 hP 0 rfl rfl 2 (by decide) (hts _ bw_359) (fun _ h9 => h9) rfl d_N_nearest_38 ?_
      refine lv_iload hx hb d_N_nearest_41 (lv_at hl 6 rfl) ?_
      obtain ⟨hi3, hf⟩ := o_i hf
      refine va_iald (cA := cI) (n := 20) (f := n_ys) hx hb hK.1 hP 3 0 rfl rfl hi3 d_N_nearest_43 ?_
      refine lv_iload_n hx hb d_N_nearest_44 rfl (lv_at hl 3 rfl) ?_
      refine lv_isub hx hb d_N_nearest_45 ?_
      refine lv_i2l hx hb d_N_nearest_46 rfl ?_
      refine lv_lstore (lv' := [(9, .long ((n_ys x6.toNatClampNeg) - x2).toInt64), (7, .long ((n_xs x6.toNatClampNeg) - x1).toInt64), (0, .ref gN), (1, .int x1), (2, .int x2), (3, .int x3), (4, .long x4), (6, .int x6)]) hx hb d_N_nearest_47 hl (by decide) rfl (fun ls hl => ?_)
      refine lv_lload hx hb d_N_nearest_49 (lv_at hl 1 rfl) ?_
      refine lv_lload hx hb d_N_nearest_51 (lv_at hl 1 rfl) ?_
      refine lv_lmul hx hb d_N_nearest_53 ?_
      refine lv_lload hx hb d_N_nearest_54 (lv_at hl 0 rfl) ?_
      refine lv_lload hx hb d_N_nearest_56 (lv_at hl 0 rfl) ?_
      refine lv_lmul hx hb d_N_nearest_58 ?_
      refine lv_ladd hx hb d_N_nearest_59 ?_
      refine lv_lstore (lv' := [(11, .long ((((n_xs x6.toNatClampNeg) - x1).toInt64 * ((n_xs x6.toNatClampNeg) - x1).toInt64) + (((n_ys x6.toNatClampNeg) - x2).toInt64 * ((n_ys x6.toNatClampNeg) - x2).toInt64))), (9, .long ((n_ys x6.toNatClampNeg) - x2).toInt64), (7, .long ((n_xs x6.toNatClampNeg) - x1).toInt64), (0, .ref gN), (1, .int x1), (2, .int x2), (3, .int x3), (4, .long x4), (6, .int x6)]) hx hb d_N_nearest_60 hl (by decide) rfl (fun ls hl => ?_)
      refine lv_aload_n hx hb d_N_nearest_62 rfl (lv_at hl 3 rfl) ?_
      refine va_get (D := (dC, dI)) (ci := 4) (v := .ref bTh) (C := R_N) (T := T_N) (N := 10) hx hb hts in_N hown hK.1 hP 0 rfl rfl 0 (by decide) (hts _ bw_357) (fun _ h9 => h9) rfl d_N_nearest_63 ?_
      refine lv_iload hx hb d_N_nearest_66 (lv_at hl 8 rfl) ?_
      obtain ⟨hi4, hf⟩ := o_i hf
      refine va_zald (cA := cZ) (n := 20) (f := n_th) hx hb hK.1 hP 1 1 rfl rfl hi4 d_N_nearest_68 ?_
      refine lv_if_eq (tgt := 91) hx hb d_N_nearest_69 (by decide) (fun hc5 => ?_) (fun hc5 => ?_)
      · have hf := o_t hf hc5
        refine lv_iinc (v := (x6 + 1)) (lv' := [(6, .int (x6 + 1)), (11, .long ((((n_xs x6.toNatClampNeg) - x1).toInt64 * ((n_xs x6.toNatClampNeg) - x1).toInt64) + (((n_ys x6.toNatClampNeg) - x2).toInt64 * ((n_ys x6.toNatClampNeg) - x2).toInt64))), (9, .long ((n_ys x6.toNatClampNeg) - x2).toInt64), (7, .long ((n_xs x6.toNatClampNeg) - x1).toInt64), (0, .ref gN), (1, .int x1), (2, .int x2), (3, .int x3), (4, .long x4)]) hx hb d_N_nearest_91 hl (k := 8) rfl rfl (by decide) rfl (fun ls hl => ?_)
        refine lv_goto (tgt := 18) hx hb d_N_nearest_94 (by decide) ?_
        exact ih x1 x2 x3 x4 (x6 + 1) hf ls (lv_sub hl [4, 5, 6, 7, 8, 0] rfl)
      · have hf := o_f hf hc5
        refine lv_iload_n hx hb d_N_nearest_72 rfl (lv_at hl 6 rfl) ?_
        refine lv_if_lt (tgt := 84) hx hb d_N_nearest_73 (by decide) (fun hc6 => ?_) (fun hc6 => ?_)
        · have hf := o_t hf hc6
          exact t_N_nearest_b84 C0 hK hP (k18 := (fun x1 x2 x3 x4 x6 => f_N_nearest_L18 n_th n_xs n_ys n x1 x2 x3 x4 x6)) ih x1 x2 x6 ((((n_xs x6.toNatClampNeg) - x1).toInt64 * ((n_xs x6.toNatClampNeg) - x1).toInt64) + (((n_ys x6.toNatClampNeg) - x2).toInt64 * ((n_ys x6.toNatClampNeg) - x2).toInt64)) hf ls (lv_sub hl [3, 4, 5, 8, 0] rfl)
        · have hf := o_f hf hc6
          refine lv_lload hx hb d_N_nearest_76 (lv_at hl 0 rfl) ?_
          refine lv_lload hx hb d_N_nearest_78 (lv_at hl 7 rfl) ?_
          refine W.lcmp hx hb d_N_nearest_80 ?_
          refine lv_if_ge (tgt := 91) hx hb d_N_nearest_81 (by decide) (fun hc7 => ?_) (fun hc7 => ?_)
          · have hf := o_t hf hc7
            refine lv_iinc (v := (x6 + 1)) (lv' := [(6, .int (x6 + 1)), (11, .long ((((n_xs x6.toNatClampNeg) - x1).toInt64 * ((n_xs x6.toNatClampNeg) - x1).toInt64) + (((n_ys x6.toNatClampNeg) - x2).toInt64 * ((n_ys x6.toNatClampNeg) - x2).toInt64))), (9, .long ((n_ys x6.toNatClampNeg) - x2).toInt64), (7, .long ((n_xs x6.toNatClampNeg) - x1).toInt64), (0, .ref gN), (1, .int x1), (2, .int x2), (3, .int x3), (4, .long x4)]) hx hb d_N_nearest_91 hl (k := 8) rfl rfl (by decide) rfl (fun ls hl => ?_)
            refine lv_goto (tgt := 18) hx hb d_N_nearest_94 (by decide) ?_
            exact ih x1 x2 x3 x4 (x6 + 1) hf ls (lv_sub hl [4, 5, 6, 7, 8, 0] rfl)
          · have hf := o_f hf hc7
            exact t_N_nearest_b84 C0 hK hP (k18 := (fun x1 x2 x3 x4 x6 => f_N_nearest_L18 n_th n_xs n_ys n x1 x2 x3 x4 x6)) ih x1 x2 x6 ((((n_xs x6.toNatClampNeg) - x1).toInt64 * ((n_xs x6.toNatClampNeg) - x1).toInt64) + (((n_ys x6.toNatClampNeg) - x2).toInt64 * ((n_ys x6.toNatClampNeg) - x2).toInt64)) hf ls (lv_sub hl [3, 4, 5, 8, 0] rfl)
set_option maxHeartbeats 4000000 in
set_option maxRecDepth 100000 in
theorem c_N_nearest (l : Launch) (dC : Nat → ClassId) (dI : Nat → Nat → Nat) (cI cZ : ClassId) (gN bTh bXs bYs bA bB bC bEd : Nat) (n_th : Nat → Int32) (n_xs : Nat → Int32) (n_ys : Nat → Int32) (n_kn : Int32) (n_ct : Int32) (n_rd : Int32) (x1 : Int32) (x2 : Int32) (rv : Int32) (hf : f_N_nearest n_th n_xs n_ys x1 x2 = some rv) : Met l y_N_nearest w_N_nearest ({ frames := 1, cells := 0, slots := 0, locals := 21 } : Room) (PcR dC dI cI cZ [.ref gN, .int x1, .int x2] [(gN, .inr (4, [.ref bTh, .ref bXs, .ref bYs, .int n_kn, .int n_ct, .ref bA, .ref bB, .ref bC, .int n_rd, .ref bEd])), (bTh, .inl (cZ, 20, .inl n_th)), (bXs, .inl (cI, 20, .inl n_xs)), (bYs, .inl (cI, 20, .inl n_ys))]) (vp_Si (fun r => r = rv)) 0 0 (fun _ => False) := by
  refine Met.ofW (cc := b_N_nearest) (maxL := 13) (ret := (some .int)) (by decide) rfl ?_
  intro p e s m args below meth c s₁ B hml hv
  obtain ⟨rfl, hP, hK⟩ := hv
  have C0 : cx p s m _ meth c b_N_nearest (some .int) 13 R_N := ⟨B.exec, B.bytes, B.returns, hml, fun w hw => atoms_spec (ws := w_N_nearest) B.pre w (List.mem_cons_of_mem _ hw), findClass_of_methodNamed B.named, B.notSynchronized⟩
  obtain ⟨hx, hb, hr, hml, hts, hown, hlocks⟩ := id C0
  have hl := lv_entry ([.ref gN, .int x1, .int x2]) (n := 13) (Nat.le_of_ble_eq_true rfl)
  rw [lg_entry_eq]
  generalize (lg_sl ([.ref gN, .int x1, .int x2]) ++ List.replicate (13 - (lg_sl ([.ref gN, .int x1, .int x2])).length) Slot.unset).toArray = ls at hl ⊢
  have hl : lv_has ls 13 [(0, .ref gN), (1, .int x1), (2, .int x2)] := hl
  refine lv_iload_n hx hb d_N_nearest_0 rfl (lv_at hl 1 rfl) ?_
  refine lv_iload_n hx hb d_N_nearest_1 rfl (lv_at hl 2 rfl) ?_
  obtain ⟨r8, hv10, hf⟩ := o_b hf
  refine rc_i (va_runS (As := [.int x1, .int x2]) (rest := []) ⟨hx, hb, hml, hown, hts⟩ (c_N_outside l dC dI cI cZ x1 x2 r8 hv10) (va_cwS 2 hts (gd_S bw_392 bw_393 bw_5 bw_394) rfl rfl rfl hd_N_outside ⟨Nat.le_of_ble_eq_true rfl, Nat.le_of_ble_eq_true rfl⟩) (ps_r (wc := []) hK hP [] rfl) rfl rfl hl.1 rfl (lv_room (Nat.le_of_ble_eq_true rfl)) d_N_nearest_2 ⟨Nat.zero_le _, Nat.zero_le _⟩) ?_
  refine lv_if_eq (tgt := 10) hx hb d_N_nearest_5 (by decide) (fun hc11 => ?_) (fun hc11 => ?_)
  · have hf := o_t hf hc11
    refine lv_iconst (v := (-1 : Int32)) hx hb d_N_nearest_10 rfl ?_
    refine lv_istore_n (lv' := [(3, .int (-1 : Int32)), (0, .ref gN), (1, .int x1), (2, .int x2)]) hx hb d_N_nearest_11 rfl hl (by decide) rfl (fun ls hl => ?_)
    refine lv_lconst (v := (0 : Int64)) hx hb d_N_nearest_12 rfl ?_
    refine lv_lstore (lv' := [(4, .long (0 : Int64)), (3, .int (-1 : Int32)), (0, .ref gN), (1, .int x1), (2, .int x2)]) hx hb d_N_nearest_13 hl (by decide) rfl (fun ls hl => ?_)
    refine lv_iconst (v := (0 : Int32)) hx hb d_N_nearest_15 rfl ?_
    refine lv_istore (lv' := [(6, .int (0 : Int32)), (4, .long (0 : Int64)), (3, .int (-1 : Int32)), (0, .ref gN), (1, .int x1), (2, .int x2)]) hx hb d_N_nearest_16 hl (by decide) rfl (fun ls hl => ?_)
    exact t_N_nearest_L18 C0 hK hP  600 x1 x2 (-1 : Int32) (0 : Int64) (0 : Int32) hf ls (lv_sub hl [3, 4, 5, 2, 1, 0] rfl)
  · have hf := o_f hf hc11
    refine lv_iconst (v := (-1 : Int32)) hx hb d_N_nearest_8 rfl ?_
    cases hf
    exact rr_i hx hb hr hlocks d_N_nearest_9
set_option maxHeartbeats 4000000 in
set_option maxRecDepth 100000 in
theorem t_N_follow_L6 {p : Program} {l : Launch} {e : Env} {s : State} {m : MethodId} {args : Array Value} {below : List Frame} {meth : Method} {c : Code} {dC : Nat → ClassId} {dI : Nat → Nat → Nat} {cI cZ : ClassId} {gN bTh bXs bYs bA bB bC bEd : Nat} {n_th : Nat → Int32} {n_xs : Nat → Int32} {n_ys : Nat → Int32} {n_kn : Int32} {n_ct : Int32} {n_a : Nat → Int32} {n_b : Nat → Int32} {n_c : Nat → Int32} {n_rd : Int32} {rv : Int32} (C0 : cx p s m args meth c b_N_follow (some .boolean) 6 R_N) (hK : gK dC dI cI cZ s) (hP : va_P (dC, dI) vwCl [(gN, .inr (4, [.ref bTh, .ref bXs, .ref bYs, .int n_kn, .int n_ct, .ref bA, .ref bB, .ref bC, .int n_rd, .ref bEd])), (bTh, .inl (cZ, 20, .inl n_th)), (bXs, .inl (cI, 20, .inl n_xs)), (bYs, .inl (cI, 20, .inl n_ys)), (bA, .inl (cI, 40, .inl n_a)), (bB, .inl (cI, 40, .inl n_b)), (bC, .inl (cI, 40, .inl n_c))] s.heap) : ∀ (n : Nat) (x1 : Int32) (x2 : Int32) (x3 : Int32) (x4 : Int32) (x5 : Int32), f_N_follow_L6 n_th n_xs n_ys n_a n_b n_c n x1 x2 x3 x4 x5 = some rv → ∀ (ls : Array Slot), lv_has ls 6 [(0, .ref gN), (1, .int x1), (2, .int x2), (3, .int x3), (4, .int x4), (5, .int x5)] → W p l e (headSpec w_N_follow ({ frames := 3, cells := 0, slots := 0, locals := 95 } : Room)).room s m args below meth c s.heap [] 0 0 (MQ below (vp_Si (fun r => r = rv)) args s 0 0 (fun _ => False)) (F0 m 6 ls []) := by
  obtain ⟨hx, hb, hr, hml, hts, hown, hlocks⟩ := id C0
  intro n
  induction n with
  | zero =>
    intro x1 x2 x3 x4 x5 hf
    exact (o_n hf).elim
  | succ n ih =>
    intro x1 x2 x3 x4 x5 hf ls hl
    refine lv_iload hx hb d_N_follow_6 (lv_at hl 5 rfl) ?_
    refine lv_bipush (v := (20 : Int32)) hx hb d_N_follow_8 rfl ?_
    refine lv_icmp_ge (tgt := 91) hx hb d_N_follow_10 (by decide) (fun hc1 => ?_) (fun hc1 => ?_)
    · have hf := o_t hf hc1
      refine lv_iload hx hb d_N_follow_91 (lv_at hl 4 rfl) ?_
      refine lv_if_ne (tgt := 100) hx hb d_N_follow_93 (by decide) (fun hc2 => ?_) (fun hc2 => ?_)
      · have hf := o_f hf hc2
        refine lv_iconst (v := (0 : Int32)) hx hb d_N_follow_100 rfl ?_
        cases hf
        exact rr_z hx hb hr hlocks rfl d_N_follow_101
      · have hf := o_t hf hc2
        refine lv_iconst (v := (1 : Int32)) hx hb d_N_follow_96 rfl ?_
        refine lv_goto (tgt := 101) hx hb d_N_follow_97 (by decide) ?_
        cases hf
        exact rr_z hx hb hr hlocks rfl d_N_follow_101
    · have hf := o_f hf hc1
      refine lv_iload hx hb d_N_follow_13 (lv_at hl 4 rfl) ?_
      refine lv_if_ne (tgt := 78) hx hb d_N_follow_15 (by decide) (fun hc3 => ?_) (fun hc3 => ?_)
      · have hf := o_f hf hc3
        refine lv_iconst (v := (1 : Int32)) hx hb d_N_follow_78 rfl ?_
        refine lv_goto (tgt := 83) hx hb d_N_follow_79 (by decide) ?_
        refine lv_istore (lv' := [(4, .int (1 : Int32)), (0, .ref gN), (1, .int x1), (2, .int x2), (3, .int x3), (5, .int x5)]) hx hb d_N_follow_83 hl (by decide) rfl (fun ls hl => ?_)
        refine lv_iinc (v := (x5 + 1)) (lv' := [(5, .int (x5 + 1)), (4, .int (1 : Int32)), (0, .ref gN), (1, .int x1), (2, .int x2), (3, .int x3)]) hx hb d_N_follow_85 hl (k := 5) rfl rfl (by decide) rfl (fun ls hl => ?_)
        refine lv_goto (tgt := 6) hx hb d_N_follow_88 (by decide) ?_
        exact ih x1 x2 x3 (1 : Int32) (x5 + 1) hf ls (lv_sub hl [2, 3, 4, 5, 1, 0] rfl)
      · have hf := o_t hf hc3
        refine lv_aload_n hx hb d_N_follow_18 rfl (lv_at hl 0 rfl) ?_
        refine va_get (D := (dC, dI)) (ci := 4) (v := .ref bTh) (C := R_N) (T := T_N) (N := 10) hx hb hts in_N hown hK.1 hP 0 rfl rfl 0 (by decide) (hts _ bw_357) (fun _ h9 => h9) rfl d_N_follow_19 ?_
        refine lv_iload hx hb d_N_follow_22 (lv_at hl 5 rfl) ?_
        obtain ⟨hi4, hf⟩ := o_i hf
        refine va_zald (cA := cZ) (n := 20) (f := n_th) hx hb hK.1 hP 1 1 rfl rfl hi4 d_N_follow_24 ?_
        refine lv_if_eq (tgt := 82) hx hb d_N_follow_25 (by decide) (fun hc5 => ?_) (fun hc5 => ?_)
        · have hf := o_t hf hc5
          refine lv_iconst (v := (0 : Int32)) hx hb d_N_follow_82 rfl ?_
          refine lv_istore (lv' := [(4, .int (0 : Int32)), (0, .ref gN), (1, .int x1), (2, .int x2), (3, .int x3), (5, .int x5)]) hx hb d_N_follow_83 hl (by decide) rfl (fun ls hl => ?_)
          refine lv_iinc (v := (x5 + 1)) (lv' := [(5, .int (x5 + 1)), (4, .int (0 : Int32)), (0, .ref gN), (1, .int x1), (2, .int x2), (3, .int x3)]) hx hb d_N_follow_85 hl (k := 5) rfl rfl (by decide) rfl (fun ls hl => ?_)
          refine lv_goto (tgt := 6) hx hb d_N_follow_88 (by decide) ?_
          exact ih x1 x2 x3 (0 : Int32) (x5 + 1) hf ls (lv_sub hl [2, 3, 4, 5, 1, 0] rfl)
        · have hf := o_f hf hc5
          refine lv_iload hx hb d_N_follow_28 (lv_at hl 5 rfl) ?_
          refine lv_iload_n hx hb d_N_follow_30 rfl (lv_at hl 2 rfl) ?_
          refine lv_icmp_eq (tgt := 82) hx hb d_N_follow_31 (by decide) (fun hc6 => ?_) (fun hc6 => ?_)
          · have hf := o_t hf hc6
            refine lv_iconst (v := (0 : Int32)) hx hb d_N_follow_82 rfl ?_
            refine lv_istore (lv' := [(4, .int (0 : Int32)), (0, .ref gN), (1, .int x1), (2, .int x2), (3, .int x3), (5, .int x5)]) hx hb d_N_follow_83 hl (by decide) rfl (fun ls hl => ?_)
            refine lv_iinc (v := (x5 + 1)) (lv' := [(5, .int (x5 + 1)), (4, .int (0 : Int32)), (0, .ref gN), (1, .int x1), (2, .int x2), (3, .int x3)]) hx hb d_N_follow_85 hl (k := 5) rfl rfl (by decide) rfl (fun ls hl => ?_)
            refine lv_goto (tgt := 6) hx hb d_N_follow_88 (by decide) ?_
            exact ih x1 x2 x3 (0 : Int32) (x5 + 1) hf ls (lv_sub hl [2, 3, 4, 5, 1, 0] rfl)
          · have hf := o_f hf hc6
            refine lv_iload hx hb d_N_follow_34 (lv_at hl 5 rfl) ?_
            refine lv_iload_n hx hb d_N_follow_36 rfl (lv_at hl 3 rfl) ?_
            refine lv_icmp_eq (tgt := 82) hx hb d_N_follow_37 (by decide) (fun hc7 => ?_) (fun hc7 => ?_)
            · have hf := o_t hf hc7
              refine lv_iconst (v := (0 : Int32)) hx hb d_N_follow_82 rfl ?_
              refine lv_istore (lv' := [(4, .int (0 : Int32)), (0, .ref gN), (1, .int x1), (2, .int x2), (3, .int x3), (5, .int x5)]) hx hb d_N_follow_83 hl (by decide) rfl (fun ls hl => ?_)
              refine lv_iinc (v := (x5 + 1)) (lv' := [(5, .int (x5 + 1)), (4, .int (0 : Int32)), (0, .ref gN), (1, .int x1), (2, .int x2), (3, .int x3)]) hx hb d_N_follow_85 hl (k := 5) rfl rfl (by decide) rfl (fun ls hl => ?_)
              refine lv_goto (tgt := 6) hx hb d_N_follow_88 (by decide) ?_
              exact ih x1 x2 x3 (0 : Int32) (x5 + 1) hf ls (lv_sub hl [2, 3, 4, 5, 1, 0] rfl)
            · have hf := o_f hf hc7
              refine lv_aload_n hx hb d_N_follow_40 rfl (lv_at hl 0 rfl) ?_
              refine lv_iload_n hx hb d_N_follow_41 rfl (lv_at hl 2 rfl) ?_
              refine lv_iload_n hx hb d_N_follow_42 rfl (lv_at hl 3 rfl) ?_
              refine lv_iload hx hb d_N_follow_43 (lv_at hl 5 rfl) ?_
              obtain ⟨r8, hv10, hf⟩ := o_b hf
              refine rc_i (va_runV (As := [.int x2, .int x3, .int x5]) (rest := []) ⟨hx, hb, hml, hown, hts⟩ (c_N_side l dC dI cI cZ gN bTh bXs bYs bA bB bC bEd n_xs n_ys n_kn n_ct n_rd x2 x3 x5 r8 hv10) (cwV 3 hts (gd_V bw_434 bw_436 bp_17 bw_5 bw_437) rfl rfl rfl ⟨rfl, hd_N_side⟩ ⟨Nat.le_of_ble_eq_true rfl, Nat.le_of_ble_eq_true rfl⟩) (pv_r (wc := [(gN, .inr (4, [.ref bTh, .ref bXs, .ref bYs, .int n_kn, .int n_ct, .ref bA, .ref bB, .ref bC, .int n_rd, .ref bEd])), (bXs, .inl (cI, 20, .inl n_xs)), (bYs, .inl (cI, 20, .inl n_ys))]) hK hP [0, 2, 3] rfl 0 (ci := 4) rfl rfl) rfl rfl hl.1 rfl (lv_room (Nat.le_of_ble_eq_true rfl)) d_N_follow_45 ⟨Nat.zero_le _, Nat.zero_le _⟩) ?_
              refine lv_if_ge (tgt := 82) hx hb d_N_follow_48 (by decide) (fun hc11 => ?_) (fun hc11 => ?_)
              · have hf := o_t hf hc11
                refine lv_iconst (v := (0 : Int32)) hx hb d_N_follow_82 rfl ?_
                refine lv_istore (lv' := [(4, .int (0 : Int32)), (0, .ref gN), (1, .int x1), (2, .int x2), (3, .int x3), (5, .int x5)]) hx hb d_N_follow_83 hl (by decide) rfl (fun ls hl => ?_)
                refine lv_iinc (v := (x5 + 1)) (lv' := [(5, .int (x5 + 1)), (4, .int (0 : Int32)), (0, .ref gN), (1, .int x1), (2, .int x2), (3, .int x3)]) hx hb d_N_follow_85 hl (k := 5) rfl rfl (by decide) rfl (fun ls hl => ?_)
                refine lv_goto (tgt := 6) hx hb d_N_follow_88 (by decide) ?_
                exact ih x1 x2 x3 (0 : Int32) (x5 + 1) hf ls (lv_sub hl [2, 3, 4, 5, 1, 0] rfl)
              · have hf := o_f hf hc11
                refine lv_aload_n hx hb d_N_follow_51 rfl (lv_at hl 0 rfl) ?_
                refine lv_aload_n hx hb d_N_follow_52 rfl (lv_at hl 0 rfl) ?_
                refine va_get (D := (dC, dI)) (ci := 4) (v := .ref bA) (C := R_N) (T := T_N) (N := 10) hx hb hts in_N hown hK.1 hP 0 rfl rfl 5 (by decide) (hts _ bw_362) (fun _ h9 => h9) rfl d_N_follow_53 ?_
                refine lv_iload_n hx hb d_N_follow_56 rfl (lv_at hl 1 rfl) ?_
                obtain ⟨hi12, hf⟩ := o_i hf
                refine va_iald (cA := cI) (n := 40) (f := n_a) hx hb hK.1 hP 4 0 rfl rfl hi12 d_N_follow_57 ?_
                refine lv_aload_n hx hb d_N_follow_58 rfl (lv_at hl 0 rfl) ?_
                refine va_get (D := (dC, dI)) (ci := 4) (v := .ref bB) (C := R_N) (T := T_N) (N := 10) hx hb hts in_N hown hK.1 hP 0 rfl rfl 6 (by decide) (hts _ bw_363) (fun _ h9 => h9) rfl d_N_follow_59 ?_
                refine lv_iload_n hx hb d_N_follow_62 rfl (lv_at hl 1 rfl) ?_
                obtain ⟨hi13, hf⟩ := o_i hf
                refine va_iald (cA := cI) (n := 40) (f := n_b) hx hb hK.1 hP 5 0 rfl rfl hi13 d_N_follow_63 ?_
                refine lv_aload_n hx hb d_N_follow_64 rfl (lv_at hl 0 rfl) ?_
                refine va_get (D := (dC, dI)) (ci := 4) (v := .ref bC) (C := R_N) (T := T_N) (N := 10) hx hb hts in_N hown hK.1 hP 0 rfl rfl 7 (by decide) (hts _ bw_364) (fun _ h9 => h9) rfl d_N_follow_65 ?_
                refine lv_iload_n hx hb d_N_follow_68 rfl (lv_at hl 1 rfl) ?_
                obtain ⟨hi14, hf⟩ := o_i hf
                refine va_iald (cA := cI) (n := 40) (f := n_c) hx hb hK.1 hP 6 0 rfl rfl hi14 d_N_follow_69 ?_
                refine lv_iload hx hb d_N_follow_70 (lv_at hl 5 rfl) ?_
                obtain ⟨r15, hv17, hf⟩ := o_b hf
                refine rc_i (va_runV (As := [.int (n_a x1.toNatClampNeg), .int (n_b x1.toNatClampNeg), .int (n_c x1.toNatClampNeg), .int x5]) (rest := []) ⟨hx, hb, hml, hown, hts⟩ (c_N_circle l dC dI cI cZ gN bTh bXs bYs bA bB bC bEd n_xs n_ys n_kn n_ct n_rd (n_a x1.toNatClampNeg) (n_b x1.toNatClampNeg) (n_c x1.toNatClampNeg) x5 r15 hv17) (cwV 4 hts (gd_V bw_446 bw_448 bp_20 bw_5 bw_449) rfl rfl rfl ⟨rfl, hd_N_circle⟩ ⟨Nat.le_of_ble_eq_true rfl, Nat.le_of_ble_eq_true rfl⟩) (pv_r (wc := [(gN, .inr (4, [.ref bTh, .ref bXs, .ref bYs, .int n_kn, .int n_ct, .ref bA, .ref bB, .ref bC, .int n_rd, .ref bEd])), (bXs, .inl (cI, 20, .inl n_xs)), (bYs, .inl (cI, 20, .inl n_ys))]) hK hP [0, 2, 3] rfl 0 (ci := 4) rfl rfl) rfl rfl hl.1 rfl (lv_room (Nat.le_of_ble_eq_true rfl)) d_N_follow_72 ⟨Nat.zero_le _, Nat.zero_le _⟩) ?_
                refine lv_if_ne (tgt := 82) hx hb d_N_follow_75 (by decide) (fun hc18 => ?_) (fun hc18 => ?_)
                · have hf := o_f hf hc18
                  refine lv_iconst (v := (0 : Int32)) hx hb d_N_follow_82 rfl ?_
                  refine lv_istore (lv' := [(4, .int (0 : Int32)), (0, .ref gN), (1, .int x1), (2, .int x2), (3, .int x3), (5, .int x5)]) hx hb d_N_follow_83 hl (by decide) rfl (fun ls hl => ?_)
                  refine lv_iinc (v := (x5 + 1)) (lv' := [(5, .int (x5 + 1)), (4, .int (0 : Int32)), (0, .ref gN), (1, .int x1), (2, .int x2), (3, .int x3)]) hx hb d_N_follow_85 hl (k := 5) rfl rfl (by decide) rfl (fun ls hl => ?_)
                  refine lv_goto (tgt := 6) hx hb d_N_follow_88 (by decide) ?_
                  exact ih x1 x2 x3 (0 : Int32) (x5 + 1) hf ls (lv_sub hl [2, 3, 4, 5, 1, 0] rfl)
                · have hf := o_t hf hc18
                  refine lv_iconst (v := (1 : Int32)) hx hb d_N_follow_78 rfl ?_
                  refine lv_goto (tgt := 83) hx hb d_N_follow_79 (by decide) ?_
                  refine lv_istore (lv' := [(4, .int (1 : Int32)), (0, .ref gN), (1, .int x1), (2, .int x2), (3, .int x3), (5, .int x5)]) hx hb d_N_follow_83 hl (by decide) rfl (fun ls hl => ?_)
                  refine lv_iinc (v := (x5 + 1)) (lv' := [(5, .int (x5 + 1)), (4, .int (1 : Int32)), (0, .ref gN), (1, .int x1), (2, .int x2), (3, .int x3)]) hx hb d_N_follow_85 hl (k := 5) rfl rfl (by decide) rfl (fun ls hl => ?_)
                  refine lv_goto (tgt := 6) hx hb d_N_follow_88 (by decide) ?_
                  exact ih x1 x2 x3 (1 : Int32) (x5 + 1) hf ls (lv_sub hl [2, 3, 4, 5, 1, 0] rfl)
set_option maxHeartbeats 4000000 in
set_option maxRecDepth 100000 in
theorem c_N_follow (l : Launch) (dC : Nat → ClassId) (dI : Nat → Nat → Nat) (cI cZ : ClassId) (gN bTh bXs bYs bA bB bC bEd : Nat) (n_th : Nat → Int32) (n_xs : Nat → Int32) (n_ys : Nat → Int32) (n_kn : Int32) (n_ct : Int32) (n_a : Nat → Int32) (n_b : Nat → Int32) (n_c : Nat → Int32) (n_rd : Int32) (x1 : Int32) (x2 : Int32) (x3 : Int32) (rv : Int32) (hf : f_N_follow n_th n_xs n_ys n_a n_b n_c x1 x2 x3 = some rv) : Met l y_N_follow w_N_follow ({ frames := 3, cells := 0, slots := 0, locals := 95 } : Room) (PcR dC dI cI cZ [.ref gN, .int x1, .int x2, .int x3] [(gN, .inr (4, [.ref bTh, .ref bXs, .ref bYs, .int n_kn, .int n_ct, .ref bA, .ref bB, .ref bC, .int n_rd, .ref bEd])), (bTh, .inl (cZ, 20, .inl n_th)), (bXs, .inl (cI, 20, .inl n_xs)), (bYs, .inl (cI, 20, .inl n_ys)), (bA, .inl (cI, 40, .inl n_a)), (bB, .inl (cI, 40, .inl n_b)), (bC, .inl (cI, 40, .inl n_c))]) (vp_Si (fun r => r = rv)) 0 0 (fun _ => False) := by
  refine Met.ofW (cc := b_N_follow) (maxL := 6) (ret := (some .boolean)) (by decide) rfl ?_
  intro p e s m args below meth c s₁ B hml hv
  obtain ⟨rfl, hP, hK⟩ := hv
  have C0 : cx p s m _ meth c b_N_follow (some .boolean) 6 R_N := ⟨B.exec, B.bytes, B.returns, hml, fun w hw => atoms_spec (ws := w_N_follow) B.pre w (List.mem_cons_of_mem _ hw), findClass_of_methodNamed B.named, B.notSynchronized⟩
  obtain ⟨hx, hb, hr, hml, hts, hown, hlocks⟩ := id C0
  have hl := lv_entry ([.ref gN, .int x1, .int x2, .int x3]) (n := 6) (Nat.le_of_ble_eq_true rfl)
  rw [lg_entry_eq]
  generalize (lg_sl ([.ref gN, .int x1, .int x2, .int x3]) ++ List.replicate (6 - (lg_sl ([.ref gN, .int x1, .int x2, .int x3])).length) Slot.unset).toArray = ls at hl ⊢
  have hl : lv_has ls 6 [(0, .ref gN), (1, .int x1), (2, .int x2), (3, .int x3)] := hl
  refine lv_iconst (v := (0 : Int32)) hx hb d_N_follow_0 rfl ?_
  refine lv_istore (lv' := [(4, .int (0 : Int32)), (0, .ref gN), (1, .int x1), (2, .int x2), (3, .int x3)]) hx hb d_N_follow_1 hl (by decide) rfl (fun ls hl => ?_)
  refine lv_iconst (v := (0 : Int32)) hx hb d_N_follow_3 rfl ?_
  refine lv_istore (lv' := [(5, .int (0 : Int32)), (4, .int (0 : Int32)), (0, .ref gN), (1, .int x1), (2, .int x2), (3, .int x3)]) hx hb d_N_follow_4 hl (by decide) rfl (fun ls hl => ?_)
  exact t_N_follow_L6 C0 hK hP  600 x1 x2 x3 (0 : Int32) (0 : Int32) hf ls (lv_sub hl [2, 3, 4, 5, 1, 0] rfl)
set_option maxHeartbeats 4000000 in
set_option maxRecDepth 100000 in
theorem t_N_flatNeighbours_b120 {p : Program} {l : Launch} {e : Env} {s : State} {m : MethodId} {args : Array Value} {below : List Frame} {meth : Method} {c : Code} {dC : Nat → ClassId} {dI : Nat → Nat → Nat} {cI cZ : ClassId} {gN bTh bXs bYs bA bB bC bEd : Nat} {n_th : Nat → Int32} {n_xs : Nat → Int32} {n_ys : Nat → Int32} {n_kn : Int32} {n_ct : Int32} {n_rd : Int32} {rv : Int32} (C0 : cx p s m args meth c b_N_flatNeighbours (some .int) 5 R_N) (hK : gK dC dI cI cZ s) (hP : va_P (dC, dI) vwCl [(gN, .inr (4, [.ref bTh, .ref bXs, .ref bYs, .int n_kn, .int n_ct, .ref bA, .ref bB, .ref bC, .int n_rd, .ref bEd])), (bTh, .inl (cZ, 20, .inl n_th)), (bXs, .inl (cI, 20, .inl n_xs)), (bYs, .inl (cI, 20, .inl n_ys))] s.heap) : ∀ (z0 : Int32) (z1 : Int32), f_N_flatNeighbours_b120 n_th n_xs n_ys z0 z1 = some rv → ∀ (ls : Array Slot), lv_has ls 5 [] → W p l e (headSpec w_N_flatNeighbours ({ frames := 1, cells := 0, slots := 0, locals := 22 } : Room)).room s m args below meth c s.heap [] 0 0 (MQ below (vp_Si (fun r => r = rv)) args s 0 0 (fun _ => False)) (F0 m 120 ls [.int z1, .int z0]) := by
  obtain ⟨hx, hb, hr, hml, hts, hown, hlocks⟩ := id C0
  intro z0 z1 hf ls hl
  refine lv_iadd hx hb d_N_flatNeighbours_120 ?_
  cases hf
  exact rr_i hx hb hr hlocks d_N_flatNeighbours_121
set_option maxHeartbeats 4000000 in
set_option maxRecDepth 100000 in
theorem t_N_flatNeighbours_b109 {p : Program} {l : Launch} {e : Env} {s : State} {m : MethodId} {args : Array Value} {below : List Frame} {meth : Method} {c : Code} {dC : Nat → ClassId} {dI : Nat → Nat → Nat} {cI cZ : ClassId} {gN bTh bXs bYs bA bB bC bEd : Nat} {n_th : Nat → Int32} {n_xs : Nat → Int32} {n_ys : Nat → Int32} {n_kn : Int32} {n_ct : Int32} {n_rd : Int32} {rv : Int32} (C0 : cx p s m args meth c b_N_flatNeighbours (some .int) 5 R_N) (hK : gK dC dI cI cZ s) (hP : va_P (dC, dI) vwCl [(gN, .inr (4, [.ref bTh, .ref bXs, .ref bYs, .int n_kn, .int n_ct, .ref bA, .ref bB, .ref bC, .int n_rd, .ref bEd])), (bTh, .inl (cZ, 20, .inl n_th)), (bXs, .inl (cI, 20, .inl n_xs)), (bYs, .inl (cI, 20, .inl n_ys))] s.heap) : ∀ (x3 : Int32) (z0 : Int32), f_N_flatNeighbours_b109 n_th n_xs n_ys x3 z0 = some rv → ∀ (ls : Array Slot), lv_has ls 5 [(3, .int x3)] → W p l e (headSpec w_N_flatNeighbours ({ frames := 1, cells := 0, slots := 0, locals := 22 } : Room)).room s m args below meth c s.heap [] 0 0 (MQ below (vp_Si (fun r => r = rv)) args s 0 0 (fun _ => False)) (F0 m 109 ls [.int z0]) := by
  obtain ⟨hx, hb, hr, hml, hts, hown, hlocks⟩ := id C0
  intro x3 z0 hf ls hl
  refine lv_iload_n hx hb d_N_flatNeighbours_109 rfl (lv_at hl 0 rfl) ?_
  refine lv_if_ge (tgt := 117) hx hb d_N_flatNeighbours_110 (by decide) (fun hc1 => ?_) (fun hc1 => ?_)
  · have hf := o_t hf hc1
    refine lv_iconst (v := (1 : Int32)) hx hb d_N_flatNeighbours_117 rfl ?_
    refine lv_iload_n hx hb d_N_flatNeighbours_118 rfl (lv_at hl 0 rfl) ?_
    refine lv_ishl hx hb d_N_flatNeighbours_119 ?_
    exact t_N_flatNeighbours_b120 C0 hK hP  z0 ((1 : Int32) <<< (x3 &&& 31)) hf ls (lv_sub hl [] rfl)
  · have hf := o_f hf hc1
    refine lv_iconst (v := (0 : Int32)) hx hb d_N_flatNeighbours_113 rfl ?_
    refine lv_goto (tgt := 120) hx hb d_N_flatNeighbours_114 (by decide) ?_
    exact t_N_flatNeighbours_b120 C0 hK hP  z0 (0 : Int32) hf ls (lv_sub hl [] rfl)
set_option maxHeartbeats 4000000 in
set_option maxRecDepth 100000 in
theorem t_N_flatNeighbours_b60 {p : Program} {l : Launch} {e : Env} {s : State} {m : MethodId} {args : Array Value} {below : List Frame} {meth : Method} {c : Code} {dC : Nat → ClassId} {dI : Nat → Nat → Nat} {cI cZ : ClassId} {gN bTh bXs bYs bA bB bC bEd : Nat} {n_th : Nat → Int32} {n_xs : Nat → Int32} {n_ys : Nat → Int32} {n_kn : Int32} {n_ct : Int32} {n_rd : Int32} {rv : Int32} (C0 : cx p s m args meth c b_N_flatNeighbours (some .int) 5 R_N) (hK : gK dC dI cI cZ s) (hP : va_P (dC, dI) vwCl [(gN, .inr (4, [.ref bTh, .ref bXs, .ref bYs, .int n_kn, .int n_ct, .ref bA, .ref bB, .ref bC, .int n_rd, .ref bEd])), (bTh, .inl (cZ, 20, .inl n_th)), (bXs, .inl (cI, 20, .inl n_xs)), (bYs, .inl (cI, 20, .inl n_ys))] s.heap) {k7 : Int32 → Int32 → Int32 → Int32 → Option (Int32)} (hk7 : ∀ (x1 : Int32) (x2 : Int32) (x3 : Int32) (x4 : Int32), k7 x1 x2 x3 x4 = some rv → ∀ (ls : Array Slot), lv_has ls 5 [(0, .ref gN), (1, .int x1), (2, .int x2), (3, .int x3), (4, .int x4)] → W p l e (headSpec w_N_flatNeighbours ({ frames := 1, cells := 0, slots := 0, locals := 22 } : Room)).room s m args below meth c s.heap [] 0 0 (MQ below (vp_Si (fun r => r = rv)) args s 0 0 (fun _ => False)) (F0 m 7 ls [])) : ∀ (x1 : Int32) (x3 : Int32) (x4 : Int32) (z0 : Int32), f_N_flatNeighbours_b60 k7 n_th n_xs n_ys x1 x3 x4 z0 = some rv → ∀ (ls : Array Slot), lv_has ls 5 [(0, .ref gN), (1, .int x1), (3, .int x3), (4, .int x4)] → W p l e (headSpec w_N_flatNeighbours ({ frames := 1, cells := 0, slots := 0, locals := 22 } : Room)).room s m args below meth c s.heap [] 0 0 (MQ below (vp_Si (fun r => r = rv)) args s 0 0 (fun _ => False)) (F0 m 60 ls [.int z0]) := by
  obtain ⟨hx, hb, hr, hml, hts, hown, hlocks⟩ := id C0
  intro x1 x3 x4 z0 hf ls hl
  refine lv_istore_n (lv' := [(2, .int z0), (0, .ref gN), (1, .int x1), (3, .int x3), (4, .int x4)]) hx hb d_N_flatNeighbours_60 rfl hl (by decide) rfl (fun ls hl => ?_)
  refine lv_aload_n hx hb d_N_flatNeighbours_61 rfl (lv_at hl 1 rfl) ?_
  refine lv_iload_n hx hb d_N_flatNeighbours_62 rfl (lv_at hl 2 rfl) ?_
  refine lv_iload hx hb d_N_flatNeighbours_63 (lv_at hl 4 rfl) ?_
  obtain ⟨r2, hv4, hf⟩ := o_b hf
  refine rc_i (va_runV (As := [.int x1, .int x4]) (rest := []) ⟨hx, hb, hml, hown, hts⟩ (c_N_earlier l dC dI cI cZ gN bTh bXs bYs bA bB bC bEd n_xs n_ys n_kn n_ct n_rd x1 x4 r2 hv4) (cwV 2 hts (gd_V bw_442 bw_444 bp_19 bw_5 bw_445) rfl rfl rfl ⟨rfl, hd_N_earlier⟩ ⟨Nat.le_of_ble_eq_true rfl, Nat.le_of_ble_eq_true rfl⟩) (pv_r (wc := [(gN, .inr (4, [.ref bTh, .ref bXs, .ref bYs, .int n_kn, .int n_ct, .ref bA, .ref bB, .ref bC, .int n_rd, .ref bEd])), (bXs, .inl (cI, 20, .inl n_xs)), (bYs, .inl (cI, 20, .inl n_ys))]) hK hP [0, 2, 3] rfl 0 (ci := 4) rfl rfl) rfl rfl hl.1 rfl (lv_room (Nat.le_of_ble_eq_true rfl)) d_N_flatNeighbours_65 ⟨Nat.zero_le _, Nat.zero_le _⟩) ?_
  refine lv_if_eq (tgt := 90) hx hb d_N_flatNeighbours_68 (by decide) (fun hc5 => ?_) (fun hc5 => ?_)
  · have hf := o_t hf hc5
    refine lv_iload_n hx hb d_N_flatNeighbours_90 rfl (lv_at hl 3 rfl) ?_
    refine lv_istore_n (lv' := [(3, .int x3), (2, .int z0), (0, .ref gN), (1, .int x1), (4, .int x4)]) hx hb d_N_flatNeighbours_91 rfl hl (by decide) rfl (fun ls hl => ?_)
    refine lv_iinc (v := (x4 + 1)) (lv' := [(4, .int (x4 + 1)), (3, .int x3), (2, .int z0), (0, .ref gN), (1, .int x1)]) hx hb d_N_flatNeighbours_92 hl (k := 4) rfl rfl (by decide) rfl (fun ls hl => ?_)
    refine lv_goto (tgt := 7) hx hb d_N_flatNeighbours_95 (by decide) ?_
    exact hk7 x1 z0 x3 (x4 + 1) hf ls (lv_sub hl [3, 4, 2, 1, 0] rfl)
  · have hf := o_f hf hc5
    refine lv_iload_n hx hb d_N_flatNeighbours_71 rfl (lv_at hl 3 rfl) ?_
    refine lv_if_lt (tgt := 85) hx hb d_N_flatNeighbours_72 (by decide) (fun hc6 => ?_) (fun hc6 => ?_)
    · have hf := o_t hf hc6
      refine lv_iload hx hb d_N_flatNeighbours_85 (lv_at hl 4 rfl) ?_
      refine lv_goto (tgt := 91) hx hb d_N_flatNeighbours_87 (by decide) ?_
      refine lv_istore_n (lv' := [(3, .int x4), (2, .int z0), (0, .ref gN), (1, .int x1), (4, .int x4)]) hx hb d_N_flatNeighbours_91 rfl hl (by decide) rfl (fun ls hl => ?_)
      refine lv_iinc (v := (x4 + 1)) (lv' := [(4, .int (x4 + 1)), (3, .int x4), (2, .int z0), (0, .ref gN), (1, .int x1)]) hx hb d_N_flatNeighbours_92 hl (k := 4) rfl rfl (by decide) rfl (fun ls hl => ?_)
      refine lv_goto (tgt := 7) hx hb d_N_flatNeighbours_95 (by decide) ?_
      exact hk7 x1 z0 x4 (x4 + 1) hf ls (lv_sub hl [3, 4, 2, 1, 0] rfl)
    · have hf := o_f hf hc6
      refine lv_aload_n hx hb d_N_flatNeighbours_75 rfl (lv_at hl 1 rfl) ?_
      refine lv_iload hx hb d_N_flatNeighbours_76 (lv_at hl 4 rfl) ?_
      refine lv_iload_n hx hb d_N_flatNeighbours_78 rfl (lv_at hl 3 rfl) ?_
      obtain ⟨r7, hv9, hf⟩ := o_b hf
      refine rc_i (va_runV (As := [.int x4, .int x3]) (rest := []) ⟨hx, hb, hml, hown, hts⟩ (c_N_earlier l dC dI cI cZ gN bTh bXs bYs bA bB bC bEd n_xs n_ys n_kn n_ct n_rd x4 x3 r7 hv9) (cwV 2 hts (gd_V bw_442 bw_444 bp_19 bw_5 bw_445) rfl rfl rfl ⟨rfl, hd_N_earlier⟩ ⟨Nat.le_of_ble_eq_true rfl, Nat.le_of_ble_eq_true rfl⟩) (pv_r (wc := [(gN, .inr (4, [.ref bTh, .ref bXs, .ref bYs, .int n_kn, .int n_ct, .ref bA, .ref bB, .ref bC, .int n_rd, .ref bEd])), (bXs, .inl (cI, 20, .inl n_xs)), (bYs, .inl (cI, 20, .inl n_ys))]) hK hP [0, 2, 3] rfl 0 (ci := 4) rfl rfl) rfl rfl hl.1 rfl (lv_room (Nat.le_of_ble_eq_true rfl)) d_N_flatNeighbours_79 ⟨Nat.zero_le _, Nat.zero_le _⟩) ?_
      refine lv_if_eq (tgt := 90) hx hb d_N_flatNeighbours_82 (by decide) (fun hc10 => ?_) (fun hc10 => ?_)
      · have hf := o_t hf hc10
        refine lv_iload_n hx hb d_N_flatNeighbours_90 rfl (lv_at hl 3 rfl) ?_
        refine lv_istore_n (lv' := [(3, .int x3), (2, .int z0), (0, .ref gN), (1, .int x1), (4, .int x4)]) hx hb d_N_flatNeighbours_91 rfl hl (by decide) rfl (fun ls hl => ?_)
        refine lv_iinc (v := (x4 + 1)) (lv' := [(4, .int (x4 + 1)), (3, .int x3), (2, .int z0), (0, .ref gN), (1, .int x1)]) hx hb d_N_flatNeighbours_92 hl (k := 4) rfl rfl (by decide) rfl (fun ls hl => ?_)
        refine lv_goto (tgt := 7) hx hb d_N_flatNeighbours_95 (by decide) ?_
        exact hk7 x1 z0 x3 (x4 + 1) hf ls (lv_sub hl [3, 4, 2, 1, 0] rfl)
      · have hf := o_f hf hc10
        refine lv_iload hx hb d_N_flatNeighbours_85 (lv_at hl 4 rfl) ?_
        refine lv_goto (tgt := 91) hx hb d_N_flatNeighbours_87 (by decide) ?_
        refine lv_istore_n (lv' := [(3, .int x4), (2, .int z0), (0, .ref gN), (1, .int x1), (4, .int x4)]) hx hb d_N_flatNeighbours_91 rfl hl (by decide) rfl (fun ls hl => ?_)
        refine lv_iinc (v := (x4 + 1)) (lv' := [(4, .int (x4 + 1)), (3, .int x4), (2, .int z0), (0, .ref gN), (1, .int x1)]) hx hb d_N_flatNeighbours_92 hl (k := 4) rfl rfl (by decide) rfl (fun ls hl => ?_)
        refine lv_goto (tgt := 7) hx hb d_N_flatNeighbours_95 (by decide) ?_
        exact hk7 x1 z0 x4 (x4 + 1) hf ls (lv_sub hl [3, 4, 2, 1, 0] rfl)
set_option maxHeartbeats 4000000 in
set_option maxRecDepth 100000 in
theorem t_N_flatNeighbours_b59 {p : Program} {l : Launch} {e : Env} {s : State} {m : MethodId} {args : Array Value} {below : List Frame} {meth : Method} {c : Code} {dC : Nat → ClassId} {dI : Nat → Nat → Nat} {cI cZ : ClassId} {gN bTh bXs bYs bA bB bC bEd : Nat} {n_th : Nat → Int32} {n_xs : Nat → Int32} {n_ys : Nat → Int32} {n_kn : Int32} {n_ct : Int32} {n_rd : Int32} {rv : Int32} (C0 : cx p s m args meth c b_N_flatNeighbours (some .int) 5 R_N) (hK : gK dC dI cI cZ s) (hP : va_P (dC, dI) vwCl [(gN, .inr (4, [.ref bTh, .ref bXs, .ref bYs, .int n_kn, .int n_ct, .ref bA, .ref bB, .ref bC, .int n_rd, .ref bEd])), (bTh, .inl (cZ, 20, .inl n_th)), (bXs, .inl (cI, 20, .inl n_xs)), (bYs, .inl (cI, 20, .inl n_ys))] s.heap) {k7 : Int32 → Int32 → Int32 → Int32 → Option (Int32)} (hk7 : ∀ (x1 : Int32) (x2 : Int32) (x3 : Int32) (x4 : Int32), k7 x1 x2 x3 x4 = some rv → ∀ (ls : Array Slot), lv_has ls 5 [(0, .ref gN), (1, .int x1), (2, .int x2), (3, .int x3), (4, .int x4)] → W p l e (headSpec w_N_flatNeighbours ({ frames := 1, cells := 0, slots := 0, locals := 22 } : Room)).room s m args below meth c s.heap [] 0 0 (MQ below (vp_Si (fun r => r = rv)) args s 0 0 (fun _ => False)) (F0 m 7 ls [])) : ∀ (x1 : Int32) (x2 : Int32) (x3 : Int32) (x4 : Int32), f_N_flatNeighbours_b59 k7 n_th n_xs n_ys x1 x2 x3 x4 = some rv → ∀ (ls : Array Slot), lv_has ls 5 [(0, .ref gN), (1, .int x1), (2, .int x2), (3, .int x3), (4, .int x4)] → W p l e (headSpec w_N_flatNeighbours ({ frames := 1, cells := 0, slots := 0, locals := 22 } : Room)).room s m args below meth c s.heap [] 0 0 (MQ below (vp_Si (fun r => r = rv)) args s 0 0 (fun _ => False)) (F0 m 59 ls []) := by
  obtain ⟨hx, hb, hr, hml, hts, hown, hlocks⟩ := id C0
  intro x1 x2 x3 x4 hf ls hl
  refine lv_iload_n hx hb d_N_flatNeighbours_59 rfl (lv_at hl 2 rfl) ?_
  exact t_N_flatNeighbours_b60 C0 hK hP (k7 := k7) hk7 x1 x3 x4 x2 hf ls (lv_sub hl [0, 1, 3, 4] rfl)
set_option maxHeartbeats 4000000 in
set_option maxRecDepth 100000 in
theorem t_N_flatNeighbours_L7 {p : Program} {l : Launch} {e : Env} {s : State} {m : MethodId} {args : Array Value} {below : List Frame} {meth : Method} {c : Code} {dC : Nat → ClassId} {dI : Nat → Nat → Nat} {cI cZ : ClassId} {gN bTh bXs bYs bA bB bC bEd : Nat} {n_th : Nat → Int32} {n_xs : Nat → Int32} {n_ys : Nat → Int32} {n_kn : Int32} {n_ct : Int32} {n_rd : Int32} {rv : Int32} (C0 : cx p s m args meth c b_N_flatNeighbours (some .int) 5 R_N) (hK : gK dC dI cI cZ s) (hP : va_P (dC, dI) vwCl [(gN, .inr (4, [.ref bTh, .ref bXs, .ref bYs, .int n_kn, .int n_ct, .ref bA, .ref bB, .ref bC, .int n_rd, .ref bEd])), (bTh, .inl (cZ, 20, .inl n_th)), (bXs, .inl (cI, 20, .inl n_xs)), (bYs, .inl (cI, 20, .inl n_ys))] s.heap) : ∀ (n : Nat) (x1 : Int32) (x2 : Int32) (x3 : Int32) (x4 : Int32), f_N_flatNeighbours_L7 n_th n_xs n_ys n x1 x2 x3 x4 = some rv → ∀ (ls : Array Slot), lv_has ls 5 [(0, .ref gN), (1, .int x1), (2, .int x2), (3, .int x3), (4, .int x4)] → W p l e (headSpec w_N_flatNeighbours ({ frames := 1, cells := 0, slots := 0, locals := 22 } : Room)).room s m args below meth c s.heap [] 0 0 (MQ below (vp_Si (fun r => r = rv)) args s 0 0 (fun _ => False)) (F0 m 7 ls []) := by
  obtain ⟨hx, hb, hr, hml, hts, hown, hlocks⟩ := id C0
  intro n
  induction n with
  | zero =>
    intro x1 x2 x3 x4 hf
    exact (o_n hf).elim
  | succ n ih =>
    intro x1 x2 x3 x4 hf ls hl
    refine lv_iload hx hb d_N_flatNeighbours_7 (lv_at hl 4 rfl) ?_
    refine lv_bipush (v := (20 : Int32)) hx hb d_N_flatNeighbours_9 rfl ?_
    refine lv_icmp_ge (tgt := 98) hx hb d_N_flatNeighbours_11 (by decide) (fun hc11 => ?_) (fun hc11 => ?_)
    · have hf := o_t hf hc11
      refine lv_iload_n hx hb d_N_flatNeighbours_98 rfl (lv_at hl 2 rfl) ?_
      refine lv_if_ge (tgt := 106) hx hb d_N_flatNeighbours_99 (by decide) (fun hc12 => ?_) (fun hc12 => ?_)
      · have hf := o_t hf hc12
        refine lv_iconst (v := (1 : Int32)) hx hb d_N_flatNeighbours_106 rfl ?_
        refine lv_iload_n hx hb d_N_flatNeighbours_107 rfl (lv_at hl 2 rfl) ?_
        refine lv_ishl hx hb d_N_flatNeighbours_108 ?_
        exact t_N_flatNeighbours_b109 C0 hK hP  x3 ((1 : Int32) <<< (x2 &&& 31)) hf ls (lv_sub hl [3] rfl)
      · have hf := o_f hf hc12
        refine lv_iconst (v := (0 : Int32)) hx hb d_N_flatNeighbours_102 rfl ?_
        refine lv_goto (tgt := 109) hx hb d_N_flatNeighbours_103 (by decide) ?_
        exact t_N_flatNeighbours_b109 C0 hK hP  x3 (0 : Int32) hf ls (lv_sub hl [3] rfl)
    · have hf := o_f hf hc11
      refine lv_aload_n hx hb d_N_flatNeighbours_14 rfl (lv_at hl 0 rfl) ?_
      refine va_get (D := (dC, dI)) (ci := 4) (v := .ref bTh) (C := R_N) (T := T_N) (N := 10) hx hb hts in_N hown hK.1 hP 0 rfl rfl 0 (by decide) (hts _ bw_357) (fun _ h9 => h9) rfl d_N_flatNeighbours_15 ?_
      refine lv_iload hx hb d_N_flatNeighbours_18 (lv_at hl 4 rfl) ?_
      obtain ⟨hi13, hf⟩ := o_i hf
      refine va_zald (cA := cZ) (n := 20) (f := n_th) hx hb hK.1 hP 1 1 rfl rfl hi13 d_N_flatNeighbours_20 ?_
      refine lv_if_eq (tgt := 92) hx hb d_N_flatNeighbours_21 (by decide) (fun hc14 => ?_) (fun hc14 => ?_)
      · have hf := o_t hf hc14
        refine lv_iinc (v := (x4 + 1)) (lv' := [(4, .int (x4 + 1)), (0, .ref gN), (1, .int x1), (2, .int x2), (3, .int x3)]) hx hb d_N_flatNeighbours_92 hl (k := 4) rfl rfl (by decide) rfl (fun ls hl => ?_)
        refine lv_goto (tgt := 7) hx hb d_N_flatNeighbours_95 (by decide) ?_
        exact ih x1 x2 x3 (x4 + 1) hf ls (lv_sub hl [1, 2, 3, 4, 0] rfl)
      · have hf := o_f hf hc14
        refine lv_iload hx hb d_N_flatNeighbours_24 (lv_at hl 4 rfl) ?_
        refine lv_iload_n hx hb d_N_flatNeighbours_26 rfl (lv_at hl 1 rfl) ?_
        refine lv_icmp_eq (tgt := 92) hx hb d_N_flatNeighbours_27 (by decide) (fun hc15 => ?_) (fun hc15 => ?_)
        · have hf := o_t hf hc15
          refine lv_iinc (v := (x4 + 1)) (lv' := [(4, .int (x4 + 1)), (0, .ref gN), (1, .int x1), (2, .int x2), (3, .int x3)]) hx hb d_N_flatNeighbours_92 hl (k := 4) rfl rfl (by decide) rfl (fun ls hl => ?_)
          refine lv_goto (tgt := 7) hx hb d_N_flatNeighbours_95 (by decide) ?_
          exact ih x1 x2 x3 (x4 + 1) hf ls (lv_sub hl [1, 2, 3, 4, 0] rfl)
        · have hf := o_f hf hc15
          refine lv_aload_n hx hb d_N_flatNeighbours_30 rfl (lv_at hl 0 rfl) ?_
          refine lv_iload hx hb d_N_flatNeighbours_31 (lv_at hl 4 rfl) ?_
          refine lv_iload_n hx hb d_N_flatNeighbours_33 rfl (lv_at hl 1 rfl) ?_
          obtain ⟨r16, hv18, hf⟩ := o_b hf
          refine rc_i (va_runV (As := [.int x4, .int x1]) (rest := []) ⟨hx, hb, hml, hown, hts⟩ (c_N_earlier l dC dI cI cZ gN bTh bXs bYs bA bB bC bEd n_xs n_ys n_kn n_ct n_rd x4 x1 r16 hv18) (cwV 2 hts (gd_V bw_442 bw_444 bp_19 bw_5 bw_445) rfl rfl rfl ⟨rfl, hd_N_earlier⟩ ⟨Nat.le_of_ble_eq_true rfl, Nat.le_of_ble_eq_true rfl⟩) (pv_r (wc := [(gN, .inr (4, [.ref bTh, .ref bXs, .ref bYs, .int n_kn, .int n_ct, .ref bA, .ref bB, .ref bC, .int n_rd, .ref bEd])), (bXs, .inl (cI, 20, .inl n_xs)), (bYs, .inl (cI, 20, .inl n_ys))]) hK hP [0, 2, 3] rfl 0 (ci := 4) rfl rfl) rfl rfl hl.1 rfl (lv_room (Nat.le_of_ble_eq_true rfl)) d_N_flatNeighbours_34 ⟨Nat.zero_le _, Nat.zero_le _⟩) ?_
          refine lv_if_eq (tgt := 59) hx hb d_N_flatNeighbours_37 (by decide) (fun hc19 => ?_) (fun hc19 => ?_)
          · have hf := o_t hf hc19
            exact t_N_flatNeighbours_b59 C0 hK hP (k7 := (fun x1 x2 x3 x4 => f_N_flatNeighbours_L7 n_th n_xs n_ys n x1 x2 x3 x4)) ih x1 x2 x3 x4 hf ls (lv_sub hl [0, 1, 2, 3, 4] rfl)
          · have hf := o_f hf hc19
            refine lv_iload_n hx hb d_N_flatNeighbours_40 rfl (lv_at hl 2 rfl) ?_
            refine lv_if_lt (tgt := 54) hx hb d_N_flatNeighbours_41 (by decide) (fun hc20 => ?_) (fun hc20 => ?_)
            · have hf := o_t hf hc20
              refine lv_iload hx hb d_N_flatNeighbours_54 (lv_at hl 4 rfl) ?_
              refine lv_goto (tgt := 60) hx hb d_N_flatNeighbours_56 (by decide) ?_
              exact t_N_flatNeighbours_b60 C0 hK hP (k7 := (fun x1 x2 x3 x4 => f_N_flatNeighbours_L7 n_th n_xs n_ys n x1 x2 x3 x4)) ih x1 x3 x4 x4 hf ls (lv_sub hl [0, 1, 3, 4] rfl)
            · have hf := o_f hf hc20
              refine lv_aload_n hx hb d_N_flatNeighbours_44 rfl (lv_at hl 0 rfl) ?_
              refine lv_iload_n hx hb d_N_flatNeighbours_45 rfl (lv_at hl 2 rfl) ?_
              refine lv_iload hx hb d_N_flatNeighbours_46 (lv_at hl 4 rfl) ?_
              obtain ⟨r21, hv23, hf⟩ := o_b hf
              refine rc_i (va_runV (As := [.int x2, .int x4]) (rest := []) ⟨hx, hb, hml, hown, hts⟩ (c_N_earlier l dC dI cI cZ gN bTh bXs bYs bA bB bC bEd n_xs n_ys n_kn n_ct n_rd x2 x4 r21 hv23) (cwV 2 hts (gd_V bw_442 bw_444 bp_19 bw_5 bw_445) rfl rfl rfl ⟨rfl, hd_N_earlier⟩ ⟨Nat.le_of_ble_eq_true rfl, Nat.le_of_ble_eq_true rfl⟩) (pv_r (wc := [(gN, .inr (4, [.ref bTh, .ref bXs, .ref bYs, .int n_kn, .int n_ct, .ref bA, .ref bB, .ref bC, .int n_rd, .ref bEd])), (bXs, .inl (cI, 20, .inl n_xs)), (bYs, .inl (cI, 20, .inl n_ys))]) hK hP [0, 2, 3] rfl 0 (ci := 4) rfl rfl) rfl rfl hl.1 rfl (lv_room (Nat.le_of_ble_eq_true rfl)) d_N_flatNeighbours_48 ⟨Nat.zero_le _, Nat.zero_le _⟩) ?_
              refine lv_if_eq (tgt := 59) hx hb d_N_flatNeighbours_51 (by decide) (fun hc24 => ?_) (fun hc24 => ?_)
              · have hf := o_t hf hc24
                exact t_N_flatNeighbours_b59 C0 hK hP (k7 := (fun x1 x2 x3 x4 => f_N_flatNeighbours_L7 n_th n_xs n_ys n x1 x2 x3 x4)) ih x1 x2 x3 x4 hf ls (lv_sub hl [0, 1, 2, 3, 4] rfl)
              · have hf := o_f hf hc24
                refine lv_iload hx hb d_N_flatNeighbours_54 (lv_at hl 4 rfl) ?_
                refine lv_goto (tgt := 60) hx hb d_N_flatNeighbours_56 (by decide) ?_
                exact t_N_flatNeighbours_b60 C0 hK hP (k7 := (fun x1 x2 x3 x4 => f_N_flatNeighbours_L7 n_th n_xs n_ys n x1 x2 x3 x4)) ih x1 x3 x4 x4 hf ls (lv_sub hl [0, 1, 3, 4] rfl)
set_option maxHeartbeats 4000000 in
set_option maxRecDepth 100000 in
theorem c_N_flatNeighbours (l : Launch) (dC : Nat → ClassId) (dI : Nat → Nat → Nat) (cI cZ : ClassId) (gN bTh bXs bYs bA bB bC bEd : Nat) (n_th : Nat → Int32) (n_xs : Nat → Int32) (n_ys : Nat → Int32) (n_kn : Int32) (n_ct : Int32) (n_rd : Int32) (x1 : Int32) (rv : Int32) (hf : f_N_flatNeighbours n_th n_xs n_ys x1 = some rv) : Met l y_N_flatNeighbours w_N_flatNeighbours ({ frames := 1, cells := 0, slots := 0, locals := 22 } : Room) (PcR dC dI cI cZ [.ref gN, .int x1] [(gN, .inr (4, [.ref bTh, .ref bXs, .ref bYs, .int n_kn, .int n_ct, .ref bA, .ref bB, .ref bC, .int n_rd, .ref bEd])), (bTh, .inl (cZ, 20, .inl n_th)), (bXs, .inl (cI, 20, .inl n_xs)), (bYs, .inl (cI, 20, .inl n_ys))]) (vp_Si (fun r => r = rv)) 0 0 (fun _ => False) := by
  refine Met.ofW (cc := b_N_flatNeighbours) (maxL := 5) (ret := (some .int)) (by decide) rfl ?_
  intro p e s m args below meth c s₁ B hml hv
  obtain ⟨rfl, hP, hK⟩ := hv
  have C0 : cx p s m _ meth c b_N_flatNeighbours (some .int) 5 R_N := ⟨B.exec, B.bytes, B.returns, hml, fun w hw => atoms_spec (ws := w_N_flatNeighbours) B.pre w (List.mem_cons_of_mem _ hw), findClass_of_methodNamed B.named, B.notSynchronized⟩
  obtain ⟨hx, hb, hr, hml, hts, hown, hlocks⟩ := id C0
  have hl := lv_entry ([.ref gN, .int x1]) (n := 5) (Nat.le_of_ble_eq_true rfl)
  rw [lg_entry_eq]
  generalize (lg_sl ([.ref gN, .int x1]) ++ List.replicate (5 - (lg_sl ([.ref gN, .int x1])).length) Slot.unset).toArray = ls at hl ⊢
  have hl : lv_has ls 5 [(0, .ref gN), (1, .int x1)] := hl
  refine lv_iconst (v := (-1 : Int32)) hx hb d_N_flatNeighbours_0 rfl ?_
  refine lv_istore_n (lv' := [(2, .int (-1 : Int32)), (0, .ref gN), (1, .int x1)]) hx hb d_N_flatNeighbours_1 rfl hl (by decide) rfl (fun ls hl => ?_)
  refine lv_iconst (v := (-1 : Int32)) hx hb d_N_flatNeighbours_2 rfl ?_
  refine lv_istore_n (lv' := [(3, .int (-1 : Int32)), (2, .int (-1 : Int32)), (0, .ref gN), (1, .int x1)]) hx hb d_N_flatNeighbours_3 rfl hl (by decide) rfl (fun ls hl => ?_)
  refine lv_iconst (v := (0 : Int32)) hx hb d_N_flatNeighbours_4 rfl ?_
  refine lv_istore (lv' := [(4, .int (0 : Int32)), (3, .int (-1 : Int32)), (2, .int (-1 : Int32)), (0, .ref gN), (1, .int x1)]) hx hb d_N_flatNeighbours_5 hl (by decide) rfl (fun ls hl => ?_)
  exact t_N_flatNeighbours_L7 C0 hK hP  600 x1 (-1 : Int32) (-1 : Int32) (0 : Int32) hf ls (lv_sub hl [3, 4, 2, 1, 0] rfl)
set_option maxHeartbeats 4000000 in
set_option maxRecDepth 100000 in
theorem t_N_link_b46 {p : Program} {l : Launch} {e : Env} {s : State} {m : MethodId} {args : Array Value} {below : List Frame} {meth : Method} {c : Code} {dC : Nat → ClassId} {dI : Nat → Nat → Nat} {cI cZ : ClassId} {gN bTh bXs bYs bA bB bC bEd : Nat} {n_th : Nat → Int32} {n_xs : Nat → Int32} {n_ys : Nat → Int32} {n_kn : Int32} {n_ct : Int32} {n_a : Nat → Int32} {n_b : Nat → Int32} {n_c : Nat → Int32} {n_rd : Int32} {rv : Int32} (C0 : cx p s m args meth c b_N_link (some .int) 6 R_N) (hK : gK dC dI cI cZ s) (hP : va_P (dC, dI) vwCl [(gN, .inr (4, [.ref bTh, .ref bXs, .ref bYs, .int n_kn, .int n_ct, .ref bA, .ref bB, .ref bC, .int n_rd, .ref bEd])), (bTh, .inl (cZ, 20, .inl n_th)), (bXs, .inl (cI, 20, .inl n_xs)), (bYs, .inl (cI, 20, .inl n_ys)), (bA, .inl (cI, 40, .inl n_a)), (bB, .inl (cI, 40, .inl n_b)), (bC, .inl (cI, 40, .inl n_c))] s.heap) : ∀ (z0 : Int32) (z1 : Int32), f_N_link_b46 n_th n_xs n_ys n_a n_b n_c z0 z1 = some rv → ∀ (ls : Array Slot), lv_has ls 6 [] → W p l e (headSpec w_N_link ({ frames := 4, cells := 0, slots := 0, locals := 120 } : Room)).room s m args below meth c s.heap [] 0 0 (MQ below (vp_Si (fun r => r = rv)) args s 0 0 (fun _ => False)) (F0 m 46 ls [.int z1, .int z0]) := by
  obtain ⟨hx, hb, hr, hml, hts, hown, hlocks⟩ := id C0
  intro z0 z1 hf ls hl
  refine lv_ishl hx hb d_N_link_46 ?_
  refine lv_goto (tgt := 51) hx hb d_N_link_47 (by decide) ?_
  cases hf
  exact rr_i hx hb hr hlocks d_N_link_51
set_option maxHeartbeats 4000000 in
set_option maxRecDepth 100000 in
theorem t_N_link_b16 {p : Program} {l : Launch} {e : Env} {s : State} {m : MethodId} {args : Array Value} {below : List Frame} {meth : Method} {c : Code} {dC : Nat → ClassId} {dI : Nat → Nat → Nat} {cI cZ : ClassId} {gN bTh bXs bYs bA bB bC bEd : Nat} {n_th : Nat → Int32} {n_xs : Nat → Int32} {n_ys : Nat → Int32} {n_kn : Int32} {n_ct : Int32} {n_a : Nat → Int32} {n_b : Nat → Int32} {n_c : Nat → Int32} {n_rd : Int32} {rv : Int32} (C0 : cx p s m args meth c b_N_link (some .int) 6 R_N) (hK : gK dC dI cI cZ s) (hP : va_P (dC, dI) vwCl [(gN, .inr (4, [.ref bTh, .ref bXs, .ref bYs, .int n_kn, .int n_ct, .ref bA, .ref bB, .ref bC, .int n_rd, .ref bEd])), (bTh, .inl (cZ, 20, .inl n_th)), (bXs, .inl (cI, 20, .inl n_xs)), (bYs, .inl (cI, 20, .inl n_ys)), (bA, .inl (cI, 40, .inl n_a)), (bB, .inl (cI, 40, .inl n_b)), (bC, .inl (cI, 40, .inl n_c))] s.heap) : ∀ (x1 : Int32) (x2 : Int32) (x3 : Int32) (x4 : Int32) (z0 : Int32), f_N_link_b16 n_th n_xs n_ys n_a n_b n_c x1 x2 x3 x4 z0 = some rv → ∀ (ls : Array Slot), lv_has ls 6 [(0, .ref gN), (1, .int x1), (2, .int x2), (3, .int x3), (4, .int x4)] → W p l e (headSpec w_N_link ({ frames := 4, cells := 0, slots := 0, locals := 120 } : Room)).room s m args below meth c s.heap [] 0 0 (MQ below (vp_Si (fun r => r = rv)) args s 0 0 (fun _ => False)) (F0 m 16 ls [.int z0]) := by
  obtain ⟨hx, hb, hr, hml, hts, hown, hlocks⟩ := id C0
  intro x1 x2 x3 x4 z0 hf ls hl
  refine lv_istore (lv' := [(5, .int z0), (0, .ref gN), (1, .int x1), (2, .int x2), (3, .int x3), (4, .int x4)]) hx hb d_N_link_16 hl (by decide) rfl (fun ls hl => ?_)
  refine lv_iload hx hb d_N_link_18 (lv_at hl 0 rfl) ?_
  refine lv_if_eq (tgt := 50) hx hb d_N_link_20 (by decide) (fun hc1 => ?_) (fun hc1 => ?_)
  · have hf := o_t hf hc1
    refine lv_iconst (v := (0 : Int32)) hx hb d_N_link_50 rfl ?_
    cases hf
    exact rr_i hx hb hr hlocks d_N_link_51
  · have hf := o_f hf hc1
    refine lv_aload_n hx hb d_N_link_23 rfl (lv_at hl 1 rfl) ?_
    refine lv_iload_n hx hb d_N_link_24 rfl (lv_at hl 2 rfl) ?_
    refine lv_iload_n hx hb d_N_link_25 rfl (lv_at hl 4 rfl) ?_
    refine lv_iload hx hb d_N_link_26 (lv_at hl 5 rfl) ?_
    obtain ⟨r2, hv4, hf⟩ := o_b hf
    refine rc_i (va_runV (As := [.int x1, .int x3, .int x4]) (rest := []) ⟨hx, hb, hml, hown, hts⟩ (c_N_follow l dC dI cI cZ gN bTh bXs bYs bA bB bC bEd n_th n_xs n_ys n_kn n_ct n_a n_b n_c n_rd x1 x3 x4 r2 hv4) (cwV 3 hts (gd_V bw_497 bw_499 bp_24 bw_5 bw_500) rfl rfl rfl ⟨rfl, hd_N_follow⟩ ⟨Nat.le_of_ble_eq_true rfl, Nat.le_of_ble_eq_true rfl⟩) (pv_r (wc := [(gN, .inr (4, [.ref bTh, .ref bXs, .ref bYs, .int n_kn, .int n_ct, .ref bA, .ref bB, .ref bC, .int n_rd, .ref bEd])), (bTh, .inl (cZ, 20, .inl n_th)), (bXs, .inl (cI, 20, .inl n_xs)), (bYs, .inl (cI, 20, .inl n_ys)), (bA, .inl (cI, 40, .inl n_a)), (bB, .inl (cI, 40, .inl n_b)), (bC, .inl (cI, 40, .inl n_c))]) hK hP [0, 1, 2, 3, 4, 5, 6] rfl 0 (ci := 4) rfl rfl) rfl rfl hl.1 rfl (lv_room (Nat.le_of_ble_eq_true rfl)) d_N_link_28 ⟨Nat.zero_le _, Nat.zero_le _⟩) ?_
    refine lv_if_eq (tgt := 50) hx hb d_N_link_31 (by decide) (fun hc5 => ?_) (fun hc5 => ?_)
    · have hf := o_t hf hc5
      refine lv_iconst (v := (0 : Int32)) hx hb d_N_link_50 rfl ?_
      cases hf
      exact rr_i hx hb hr hlocks d_N_link_51
    · have hf := o_f hf hc5
      refine lv_iconst (v := (1 : Int32)) hx hb d_N_link_34 rfl ?_
      refine lv_iload_n hx hb d_N_link_35 rfl (lv_at hl 4 rfl) ?_
      refine lv_iload_n hx hb d_N_link_36 rfl (lv_at hl 3 rfl) ?_
      refine lv_icmp_ne (tgt := 45) hx hb d_N_link_37 (by decide) (fun hc6 => ?_) (fun hc6 => ?_)
      · have hf := o_f hf hc6
        refine lv_iload_n hx hb d_N_link_45 rfl (lv_at hl 4 rfl) ?_
        exact t_N_link_b46 C0 hK hP  (1 : Int32) x3 hf ls (lv_sub hl [] rfl)
      · have hf := o_t hf hc6
        refine lv_iload hx hb d_N_link_40 (lv_at hl 5 rfl) ?_
        refine lv_goto (tgt := 46) hx hb d_N_link_42 (by decide) ?_
        exact t_N_link_b46 C0 hK hP  (1 : Int32) x4 hf ls (lv_sub hl [] rfl)
set_option maxHeartbeats 4000000 in
set_option maxRecDepth 100000 in
theorem c_N_link (l : Launch) (dC : Nat → ClassId) (dI : Nat → Nat → Nat) (cI cZ : ClassId) (gN bTh bXs bYs bA bB bC bEd : Nat) (n_th : Nat → Int32) (n_xs : Nat → Int32) (n_ys : Nat → Int32) (n_kn : Int32) (n_ct : Int32) (n_a : Nat → Int32) (n_b : Nat → Int32) (n_c : Nat → Int32) (n_rd : Int32) (x1 : Int32) (x2 : Int32) (x3 : Int32) (x4 : Int32) (rv : Int32) (hf : f_N_link n_th n_xs n_ys n_a n_b n_c x1 x2 x3 x4 = some rv) : Met l y_N_link w_N_link ({ frames := 4, cells := 0, slots := 0, locals := 120 } : Room) (PcR dC dI cI cZ [.ref gN, .int x1, .int x2, .int x3, .int x4] [(gN, .inr (4, [.ref bTh, .ref bXs, .ref bYs, .int n_kn, .int n_ct, .ref bA, .ref bB, .ref bC, .int n_rd, .ref bEd])), (bTh, .inl (cZ, 20, .inl n_th)), (bXs, .inl (cI, 20, .inl n_xs)), (bYs, .inl (cI, 20, .inl n_ys)), (bA, .inl (cI, 40, .inl n_a)), (bB, .inl (cI, 40, .inl n_b)), (bC, .inl (cI, 40, .inl n_c))]) (vp_Si (fun r => r = rv)) 0 0 (fun _ => False) := by
  refine Met.ofW (cc := b_N_link) (maxL := 6) (ret := (some .int)) (by decide) rfl ?_
  intro p e s m args below meth c s₁ B hml hv
  obtain ⟨rfl, hP, hK⟩ := hv
  have C0 : cx p s m _ meth c b_N_link (some .int) 6 R_N := ⟨B.exec, B.bytes, B.returns, hml, fun w hw => atoms_spec (ws := w_N_link) B.pre w (List.mem_cons_of_mem _ hw), findClass_of_methodNamed B.named, B.notSynchronized⟩
  obtain ⟨hx, hb, hr, hml, hts, hown, hlocks⟩ := id C0
  have hl := lv_entry ([.ref gN, .int x1, .int x2, .int x3, .int x4]) (n := 6) (Nat.le_of_ble_eq_true rfl)
  rw [lg_entry_eq]
  generalize (lg_sl ([.ref gN, .int x1, .int x2, .int x3, .int x4]) ++ List.replicate (6 - (lg_sl ([.ref gN, .int x1, .int x2, .int x3, .int x4])).length) Slot.unset).toArray = ls at hl ⊢
  have hl : lv_has ls 6 [(0, .ref gN), (1, .int x1), (2, .int x2), (3, .int x3), (4, .int x4)] := hl
  refine lv_iload_n hx hb d_N_link_0 rfl (lv_at hl 3 rfl) ?_
  refine lv_iload_n hx hb d_N_link_1 rfl (lv_at hl 2 rfl) ?_
  refine lv_icmp_eq (tgt := 11) hx hb d_N_link_2 (by decide) (fun hc7 => ?_) (fun hc7 => ?_)
  · have hf := o_t hf hc7
    refine lv_iconst (v := (1 : Int32)) hx hb d_N_link_11 rfl ?_
    refine lv_goto (tgt := 16) hx hb d_N_link_12 (by decide) ?_
    exact t_N_link_b16 C0 hK hP  x1 x2 x3 x4 (1 : Int32) hf ls (lv_sub hl [0, 1, 2, 3, 4] rfl)
  · have hf := o_f hf hc7
    refine lv_iload hx hb d_N_link_5 (lv_at hl 4 rfl) ?_
    refine lv_iload_n hx hb d_N_link_7 rfl (lv_at hl 2 rfl) ?_
    refine lv_icmp_ne (tgt := 15) hx hb d_N_link_8 (by decide) (fun hc8 => ?_) (fun hc8 => ?_)
    · have hf := o_f hf hc8
      refine lv_iconst (v := (0 : Int32)) hx hb d_N_link_15 rfl ?_
      exact t_N_link_b16 C0 hK hP  x1 x2 x3 x4 (0 : Int32) hf ls (lv_sub hl [0, 1, 2, 3, 4] rfl)
    · have hf := o_t hf hc8
      refine lv_iconst (v := (1 : Int32)) hx hb d_N_link_11 rfl ?_
      refine lv_goto (tgt := 16) hx hb d_N_link_12 (by decide) ?_
      exact t_N_link_b16 C0 hK hP  x1 x2 x3 x4 (1 : Int32) hf ls (lv_sub hl [0, 1, 2, 3, 4] rfl)
set_option maxHeartbeats 4000000 in
set_option maxRecDepth 100000 in
theorem t_N_neighbours_L31 {p : Program} {l : Launch} {e : Env} {s : State} {m : MethodId} {args : Array Value} {below : List Frame} {meth : Method} {c : Code} {dC : Nat → ClassId} {dI : Nat → Nat → Nat} {cI cZ : ClassId} {gN bTh bXs bYs bA bB bC bEd : Nat} {n_th : Nat → Int32} {n_xs : Nat → Int32} {n_ys : Nat → Int32} {n_rd : Int32} {rv : Int32} {n_kn' : Int32} {n_ct' : Int32} {n_a' : Nat → Int32} {n_b' : Nat → Int32} {n_c' : Nat → Int32} {A : Nat → Prop} (C0 : cx p s m args meth c b_N_neighbours (some .int) 4 R_N) (hK : gK dC dI cI cZ s) (hA : ∀ q, s.heap.size ≤ q → A q) : ∀ (n : Nat) (n_kn : Int32) (n_ct : Int32) (n_a : Nat → Int32) (n_b : Nat → Int32) (n_c : Nat → Int32) (x1 : Int32) (x2 : Int32) (x3 : Int32), f_N_neighbours_L31 n_th n_xs n_ys n n_kn n_ct n_a n_b n_c x1 x2 x3 = some (rv, n_kn', n_ct', n_a', n_b', n_c') → ∀ (H : Heap) (locs : List Loc), va_P (dC, dI) vwCl [(gN, .inr (4, [.ref bTh, .ref bXs, .ref bYs, .int n_kn, .int n_ct, .ref bA, .ref bB, .ref bC, .int n_rd, .ref bEd])), (bTh, .inl (cZ, 20, .inl n_th)), (bXs, .inl (cI, 20, .inl n_xs)), (bYs, .inl (cI, 20, .inl n_ys)), (bA, .inl (cI, 40, .inl n_a)), (bB, .inl (cI, 40, .inl n_b)), (bC, .inl (cI, 40, .inl n_c))] H → va_D A [(gN, .inr (4, [.ref bTh, .ref bXs, .ref bYs, .int n_kn, .int n_ct, .ref bA, .ref bB, .ref bC, .int n_rd, .ref bEd])), (bTh, .inl (cZ, 20, .inl n_th)), (bXs, .inl (cI, 20, .inl n_xs)), (bYs, .inl (cI, 20, .inl n_ys)), (bA, .inl (cI, 40, .inl n_a)), (bB, .inl (cI, 40, .inl n_b)), (bC, .inl (cI, 40, .inl n_c))] → va_S A s.heap H locs → ∀ (ls : Array Slot), lv_has ls 4 [(0, .ref gN), (1, .int x1), (2, .int x2), (3, .int x3)] → W p l e (headSpec w_N_neighbours ({ frames := 5, cells := 0, slots := 0, locals := 145 } : Room)).room s m args below meth c H locs 0 0 (MQ below (QwI dC dI A [(gN, .inr (4, [.ref bTh, .ref bXs, .ref bYs, .int n_kn', .int n_ct', .ref bA, .ref bB, .ref bC, .int n_rd, .ref bEd])), (bTh, .inl (cZ, 20, .inl n_th)), (bXs, .inl (cI, 20, .inl n_xs)), (bYs, .inl (cI, 20, .inl n_ys)), (bA, .inl (cI, 40, .inl n_a')), (bB, .inl (cI, 40, .inl n_b')), (bC, .inl (cI, 40, .inl n_c'))] rv) args s 0 0 A) (F0 m 31 ls []) := by
  obtain ⟨hx, hb, hr, hml, hts, hown, hlocks⟩ := id C0
  intro n
  induction n with
  | zero =>
    intro n_kn n_ct n_a n_b n_c x1 x2 x3 hf
    exact (o_n hf).elim
  | succ n ih =>
    intro n_kn n_ct n_a n_b n_c x1 x2 x3 hf H locs hP hD hS ls hl
    refine lv_iload_n hx hb d_N_neighbours_31 rfl (lv_at hl 3 rfl) ?_
    refine lv_aload_n hx hb d_N_neighbours_32 rfl (lv_at hl 0 rfl) ?_
    refine va_get (D := (dC, dI)) (ci := 4) (v := .int n_ct) (C := R_N) (T := T_N) (N := 10) hx hb hts in_N hown hK.1 hP 0 rfl rfl 4 (by decide) (hts _ bw_361) (fun _ h9 => h9) rfl d_N_neighbours_33 ?_
    refine lv_icmp_ge (tgt := 104) hx hb d_N_neighbours_36 (by decide) (fun hc1 => ?_) (fun hc1 => ?_)
    · have hf := o_t hf hc1
      refine lv_iload_n hx hb d_N_neighbours_104 rfl (lv_at hl 2 rfl) ?_
      cases hf
      exact wr_i hx hb hr hlocks hP hD hS d_N_neighbours_105
    · have hf := o_f hf hc1
      refine lv_iload_n hx hb d_N_neighbours_39 rfl (lv_at hl 2 rfl) ?_
      refine lv_aload_n hx hb d_N_neighbours_40 rfl (lv_at hl 0 rfl) ?_
      refine lv_iload_n hx hb d_N_neighbours_41 rfl (lv_at hl 3 rfl) ?_
      refine lv_iload_n hx hb d_N_neighbours_42 rfl (lv_at hl 1 rfl) ?_
      refine lv_aload_n hx hb d_N_neighbours_43 rfl (lv_at hl 0 rfl) ?_
      refine va_get (D := (dC, dI)) (ci := 4) (v := .ref bA) (C := R_N) (T := T_N) (N := 10) hx hb hts in_N hown hK.1 hP 0 rfl rfl 5 (by decide) (hts _ bw_362) (fun _ h9 => h9) rfl d_N_neighbours_44 ?_
      refine lv_iload_n hx hb d_N_neighbours_47 rfl (lv_at hl 3 rfl) ?_
      obtain ⟨hi2, hf⟩ := o_i hf
      refine va_iald (cA := cI) (n := 40) (f := n_a) hx hb hK.1 hP 4 0 rfl rfl hi2 d_N_neighbours_48 ?_
      refine lv_aload_n hx hb d_N_neighbours_49 rfl (lv_at hl 0 rfl) ?_
      refine va_get (D := (dC, dI)) (ci := 4) (v := .ref bB) (C := R_N) (T := T_N) (N := 10) hx hb hts in_N hown hK.1 hP 0 rfl rfl 6 (by decide) (hts _ bw_363) (fun _ h9 => h9) rfl d_N_neighbours_50 ?_
      refine lv_iload_n hx hb d_N_neighbours_53 rfl (lv_at hl 3 rfl) ?_
      obtain ⟨hi3, hf⟩ := o_i hf
      refine va_iald (cA := cI) (n := 40) (f := n_b) hx hb hK.1 hP 5 0 rfl rfl hi3 d_N_neighbours_54 ?_
      obtain ⟨r4, hv6, hf⟩ := o_b hf
      refine rc_i (va_runV (As := [.int x3, .int x1, .int (n_a x3.toNatClampNeg), .int (n_b x3.toNatClampNeg)]) (rest := [.int x2]) ⟨hx, hb, hml, hown, hts⟩ (c_N_link l dC dI cI cZ gN bTh bXs bYs bA bB bC bEd n_th n_xs n_ys n_kn n_ct n_a n_b n_c n_rd x3 x1 (n_a x3.toNatClampNeg) (n_b x3.toNatClampNeg) r4 hv6) (cwV 4 hts (gd_V bw_493 bw_495 bp_23 bw_5 bw_496) rfl rfl rfl ⟨rfl, hd_N_link⟩ ⟨Nat.le_of_ble_eq_true rfl, Nat.le_of_ble_eq_true rfl⟩) (pv_r (wc := [(gN, .inr (4, [.ref bTh, .ref bXs, .ref bYs, .int n_kn, .int n_ct, .ref bA, .ref bB, .ref bC, .int n_rd, .ref bEd])), (bTh, .inl (cZ, 20, .inl n_th)), (bXs, .inl (cI, 20, .inl n_xs)), (bYs, .inl (cI, 20, .inl n_ys)), (bA, .inl (cI, 40, .inl n_a)), (bB, .inl (cI, 40, .inl n_b)), (bC, .inl (cI, 40, .inl n_c))]) hK hP [0, 1, 2, 3, 4, 5, 6] rfl 0 (ci := 4) rfl rfl) rfl rfl hl.1 rfl (lv_room (Nat.le_of_ble_eq_true rfl)) d_N_neighbours_55 ⟨Nat.zero_le _, Nat.zero_le _⟩) ?_
      refine lv_ior hx hb d_N_neighbours_58 ?_
      refine lv_aload_n hx hb d_N_neighbours_59 rfl (lv_at hl 0 rfl) ?_
      refine lv_iload_n hx hb d_N_neighbours_60 rfl (lv_at hl 3 rfl) ?_
      refine lv_iload_n hx hb d_N_neighbours_61 rfl (lv_at hl 1 rfl) ?_
      refine lv_aload_n hx hb d_N_neighbours_62 rfl (lv_at hl 0 rfl) ?_
      refine va_get (D := (dC, dI)) (ci := 4) (v := .ref bB) (C := R_N) (T := T_N) (N := 10) hx hb hts in_N hown hK.1 hP 0 rfl rfl 6 (by decide) (hts _ bw_363) (fun _ h9 => h9) rfl d_N_neighbours_63 ?_
      refine lv_iload_n hx hb d_N_neighbours_66 rfl (lv_at hl 3 rfl) ?_
      obtain ⟨hi7, hf⟩ := o_i hf
      refine va_iald (cA := cI) (n := 40) (f := n_b) hx hb hK.1 hP 5 0 rfl rfl hi7 d_N_neighbours_67 ?_
      refine lv_aload_n hx hb d_N_neighbours_68 rfl (lv_at hl 0 rfl) ?_
      refine va_get (D := (dC, dI)) (ci := 4) (v := .ref bC) (C := R_N) (T := T_N) (N := 10) hx hb hts in_N hown hK.1 hP 0 rfl rfl 7 (by decide) (hts _ bw_364) (fun _ h9 => h9) rfl d_N_neighbours_69 ?_
      refine lv_iload_n hx hb d_N_neighbours_72 rfl (lv_at hl 3 rfl) ?_
      obtain ⟨hi8, hf⟩ := o_i hf
      refine va_iald (cA := cI) (n := 40) (f := n_c) hx hb hK.1 hP 6 0 rfl rfl hi8 d_N_neighbours_73 ?_
      obtain ⟨r9, hv11, hf⟩ := o_b hf
      refine rc_i (va_runV (As := [.int x3, .int x1, .int (n_b x3.toNatClampNeg), .int (n_c x3.toNatClampNeg)]) (rest := [.int (x2 ||| r4)]) ⟨hx, hb, hml, hown, hts⟩ (c_N_link l dC dI cI cZ gN bTh bXs bYs bA bB bC bEd n_th n_xs n_ys n_kn n_ct n_a n_b n_c n_rd x3 x1 (n_b x3.toNatClampNeg) (n_c x3.toNatClampNeg) r9 hv11) (cwV 4 hts (gd_V bw_493 bw_495 bp_23 bw_5 bw_496) rfl rfl rfl ⟨rfl, hd_N_link⟩ ⟨Nat.le_of_ble_eq_true rfl, Nat.le_of_ble_eq_true rfl⟩) (pv_r (wc := [(gN, .inr (4, [.ref bTh, .ref bXs, .ref bYs, .int n_kn, .int n_ct, .ref bA, .ref bB, .ref bC, .int n_rd, .ref bEd])), (bTh, .inl (cZ, 20, .inl n_th)), (bXs, .inl (cI, 20, .inl n_xs)), (bYs, .inl (cI, 20, .inl n_ys)), (bA, .inl (cI, 40, .inl n_a)), (bB, .inl (cI, 40, .inl n_b)), (bC, .inl (cI, 40, .inl n_c))]) hK hP [0, 1, 2, 3, 4, 5, 6] rfl 0 (ci := 4) rfl rfl) rfl rfl hl.1 rfl (lv_room (Nat.le_of_ble_eq_true rfl)) d_N_neighbours_74 ⟨Nat.zero_le _, Nat.zero_le _⟩) ?_
      refine lv_ior hx hb d_N_neighbours_77 ?_
      refine lv_aload_n hx hb d_N_neighbours_78 rfl (lv_at hl 0 rfl) ?_
      refine lv_iload_n hx hb d_N_neighbours_79 rfl (lv_at hl 3 rfl) ?_
      refine lv_iload_n hx hb d_N_neighbours_80 rfl (lv_at hl 1 rfl) ?_
      refine lv_aload_n hx hb d_N_neighbours_81 rfl (lv_at hl 0 rfl) ?_
      refine va_get (D := (dC, dI)) (ci := 4) (v := .ref bC) (C := R_N) (T := T_N) (N := 10) hx hb hts in_N hown hK.1 hP 0 rfl rfl 7 (by decide) (hts _ bw_364) (fun _ h9 => h9) rfl d_N_neighbours_82 ?_
      refine lv_iload_n hx hb d_N_neighbours_85 rfl (lv_at hl 3 rfl) ?_
      obtain ⟨hi12, hf⟩ := o_i hf
      refine va_iald (cA := cI) (n := 40) (f := n_c) hx hb hK.1 hP 6 0 rfl rfl hi12 d_N_neighbours_86 ?_
      refine lv_aload_n hx hb d_N_neighbours_87 rfl (lv_at hl 0 rfl) ?_
      refine va_get (D := (dC, dI)) (ci := 4) (v := .ref bA) (C := R_N) (T := T_N) (N := 10) hx hb hts in_N hown hK.1 hP 0 rfl rfl 5 (by decide) (hts _ bw_362) (fun _ h9 => h9) rfl d_N_neighbours_88 ?_
      refine lv_iload_n hx hb d_N_neighbours_91 rfl (lv_at hl 3 rfl) ?_
      obtain ⟨hi13, hf⟩ := o_i hf
      refine va_iald (cA := cI) (n := 40) (f := n_a) hx hb hK.1 hP 4 0 rfl rfl hi13 d_N_neighbours_92 ?_
      obtain ⟨r14, hv16, hf⟩ := o_b hf
      refine rc_i (va_runV (As := [.int x3, .int x1, .int (n_c x3.toNatClampNeg), .int (n_a x3.toNatClampNeg)]) (rest := [.int ((x2 ||| r4) ||| r9)]) ⟨hx, hb, hml, hown, hts⟩ (c_N_link l dC dI cI cZ gN bTh bXs bYs bA bB bC bEd n_th n_xs n_ys n_kn n_ct n_a n_b n_c n_rd x3 x1 (n_c x3.toNatClampNeg) (n_a x3.toNatClampNeg) r14 hv16) (cwV 4 hts (gd_V bw_493 bw_495 bp_23 bw_5 bw_496) rfl rfl rfl ⟨rfl, hd_N_link⟩ ⟨Nat.le_of_ble_eq_true rfl, Nat.le_of_ble_eq_true rfl⟩) (pv_r (wc := [(gN, .inr (4, [.ref bTh, .ref bXs, .ref bYs, .int n_kn, .int n_ct, .ref bA, .ref bB, .ref bC, .int n_rd, .ref bEd])), (bTh, .inl (cZ, 20, .inl n_th)), (bXs, .inl (cI, 20, .inl n_xs)), (bYs, .inl (cI, 20, .inl n_ys)), (bA, .inl (cI, 40, .inl n_a)), (bB, .inl (cI, 40, .inl n_b)), (bC, .inl (cI, 40, .inl n_c))]) hK hP [0, 1, 2, 3, 4, 5, 6] rfl 0 (ci := 4) rfl rfl) rfl rfl hl.1 rfl (lv_room (Nat.le_of_ble_eq_true rfl)) d_N_neighbours_93 ⟨Nat.zero_le _, Nat.zero_le _⟩) ?_
      refine lv_ior hx hb d_N_neighbours_96 ?_
      refine lv_istore_n (lv' := [(2, .int (((x2 ||| r4) ||| r9) ||| r14)), (0, .ref gN), (1, .int x1), (3, .int x3)]) hx hb d_N_neighbours_97 rfl hl (by decide) rfl (fun ls hl => ?_)
      refine lv_iinc (v := (x3 + 1)) (lv' := [(3, .int (x3 + 1)), (2, .int (((x2 ||| r4) ||| r9) ||| r14)), (0, .ref gN), (1, .int x1)]) hx hb d_N_neighbours_98 hl (k := 3) rfl rfl (by decide) rfl (fun ls hl => ?_)
      refine lv_goto (tgt := 31) hx hb d_N_neighbours_101 (by decide) ?_
      exact ih n_kn n_ct n_a n_b n_c x1 (((x2 ||| r4) ||| r9) ||| r14) (x3 + 1) hf _ _ hP hD hS ls (lv_sub hl [2, 3, 1, 0] rfl)
set_option maxHeartbeats 4000000 in
set_option maxRecDepth 100000 in
theorem t_N_neighbours_e {p : Program} {l : Launch} {e : Env} {s : State} {m : MethodId} {args : Array Value} {below : List Frame} {meth : Method} {c : Code} {dC : Nat → ClassId} {dI : Nat → Nat → Nat} {cI cZ : ClassId} {gN bTh bXs bYs bA bB bC bEd : Nat} {n_th : Nat → Int32} {n_xs : Nat → Int32} {n_ys : Nat → Int32} {n_rd : Int32} {rv : Int32} {n_kn' : Int32} {n_ct' : Int32} {n_a' : Nat → Int32} {n_b' : Nat → Int32} {n_c' : Nat → Int32} {A : Nat → Prop} (C0 : cx p s m args meth c b_N_neighbours (some .int) 4 R_N) (hK : gK dC dI cI cZ s) (hA : ∀ q, s.heap.size ≤ q → A q) : ∀ (n_kn : Int32) (n_ct : Int32) (n_a : Nat → Int32) (n_b : Nat → Int32) (n_c : Nat → Int32) (x1 : Int32), f_N_neighbours n_th n_xs n_ys n_kn n_ct n_a n_b n_c x1 = some (rv, n_kn', n_ct', n_a', n_b', n_c') → ∀ (H : Heap) (locs : List Loc), va_P (dC, dI) vwCl [(gN, .inr (4, [.ref bTh, .ref bXs, .ref bYs, .int n_kn, .int n_ct, .ref bA, .ref bB, .ref bC, .int n_rd, .ref bEd])), (bTh, .inl (cZ, 20, .inl n_th)), (bXs, .inl (cI, 20, .inl n_xs)), (bYs, .inl (cI, 20, .inl n_ys)), (bA, .inl (cI, 40, .inl n_a)), (bB, .inl (cI, 40, .inl n_b)), (bC, .inl (cI, 40, .inl n_c))] H → va_D A [(gN, .inr (4, [.ref bTh, .ref bXs, .ref bYs, .int n_kn, .int n_ct, .ref bA, .ref bB, .ref bC, .int n_rd, .ref bEd])), (bTh, .inl (cZ, 20, .inl n_th)), (bXs, .inl (cI, 20, .inl n_xs)), (bYs, .inl (cI, 20, .inl n_ys)), (bA, .inl (cI, 40, .inl n_a)), (bB, .inl (cI, 40, .inl n_b)), (bC, .inl (cI, 40, .inl n_c))] → va_S A s.heap H locs → ∀ (ls : Array Slot), lv_has ls 4 [(0, .ref gN), (1, .int x1)] → W p l e (headSpec w_N_neighbours ({ frames := 5, cells := 0, slots := 0, locals := 145 } : Room)).room s m args below meth c H locs 0 0 (MQ below (QwI dC dI A [(gN, .inr (4, [.ref bTh, .ref bXs, .ref bYs, .int n_kn', .int n_ct', .ref bA, .ref bB, .ref bC, .int n_rd, .ref bEd])), (bTh, .inl (cZ, 20, .inl n_th)), (bXs, .inl (cI, 20, .inl n_xs)), (bYs, .inl (cI, 20, .inl n_ys)), (bA, .inl (cI, 40, .inl n_a')), (bB, .inl (cI, 40, .inl n_b')), (bC, .inl (cI, 40, .inl n_c'))] rv) args s 0 0 A) (F0 m 0 ls []) := by
  obtain ⟨hx, hb, hr, hml, hts, hown, hlocks⟩ := id C0
  intro n_kn n_ct n_a n_b n_c x1 hf H locs hP hD hS ls hl
  refine lv_aload_n hx hb d_N_neighbours_0 rfl (lv_at hl 0 rfl) ?_
  refine lv_iload_n hx hb d_N_neighbours_1 rfl (lv_at hl 1 rfl) ?_
  obtain ⟨r17, hv19, hf⟩ := o_b hf
  refine rc_i (va_runV (As := [.int x1]) (rest := []) ⟨hx, hb, hml, hown, hts⟩ (c_N_is l dC dI cI cZ gN bTh bXs bYs bA bB bC bEd n_th n_kn n_ct n_rd x1 r17 hv19) (cwV 1 hts (gd_V bw_405 bw_407 bp_14 bw_5 bw_408) rfl rfl rfl ⟨rfl, hd_N_is⟩ ⟨Nat.le_of_ble_eq_true rfl, Nat.le_of_ble_eq_true rfl⟩) (pv_r (wc := [(gN, .inr (4, [.ref bTh, .ref bXs, .ref bYs, .int n_kn, .int n_ct, .ref bA, .ref bB, .ref bC, .int n_rd, .ref bEd])), (bTh, .inl (cZ, 20, .inl n_th))]) hK hP [0, 1] rfl 0 (ci := 4) rfl rfl) rfl rfl hl.1 rfl (lv_room (Nat.le_of_ble_eq_true rfl)) d_N_neighbours_2 ⟨Nat.zero_le _, Nat.zero_le _⟩) ?_
  refine lv_if_ne (tgt := 10) hx hb d_N_neighbours_5 (by decide) (fun hc20 => ?_) (fun hc20 => ?_)
  · have hf := o_f hf hc20
    refine lv_aload_n hx hb d_N_neighbours_10 rfl (lv_at hl 0 rfl) ?_
    obtain ⟨⟨r21, r22, r23, r24, r25⟩, hv27, hf⟩ := o_b hf
    refine wc_v (wr := []) (w1 := [(gN, .inr (4, [.ref bTh, .ref bXs, .ref bYs, .int r21, .int r22, .ref bA, .ref bB, .ref bC, .int n_rd, .ref bEd])), (bTh, .inl (cZ, 20, .inl n_th)), (bXs, .inl (cI, 20, .inl n_xs)), (bYs, .inl (cI, 20, .inl n_ys)), (bA, .inl (cI, 40, .inl r23)), (bB, .inl (cI, 40, .inl r24)), (bC, .inl (cI, 40, .inl r25))]) (va_runV (As := []) (rest := []) ⟨hx, hb, hml, hown, hts⟩ (c_N_work l dC dI cI cZ gN bTh bXs bYs bA bB bC bEd n_th n_xs n_ys n_kn n_ct n_a n_b n_c n_rd r21 r22 r23 r24 r25 H.size hv27) (cwV 0 hts (gd_V bw_426 bw_428 bp_15 bw_5 bw_429) rfl rfl rfl ⟨rfl, hd_N_work⟩ ⟨Nat.le_of_ble_eq_true rfl, Nat.le_of_ble_eq_true rfl⟩) (pv_w (wc := [(gN, .inr (4, [.ref bTh, .ref bXs, .ref bYs, .int n_kn, .int n_ct, .ref bA, .ref bB, .ref bC, .int n_rd, .ref bEd])), (bTh, .inl (cZ, 20, .inl n_th)), (bXs, .inl (cI, 20, .inl n_xs)), (bYs, .inl (cI, 20, .inl n_ys)), (bA, .inl (cI, 40, .inl n_a)), (bB, .inl (cI, 40, .inl n_b)), (bC, .inl (cI, 40, .inl n_c))]) hK hP hD [0, 1, 2, 3, 4, 5, 6] rfl rfl (by decide) 0 (ci := 4) rfl rfl) rfl rfl hl.1 rfl (lv_room (Nat.le_of_ble_eq_true rfl)) d_N_neighbours_11 ⟨Nat.zero_le _, Nat.zero_le _⟩) hP hD hS hA [0, 1, 2, 3, 4, 5, 6] [] rfl rfl (by decide) (by decide) (fun H locs hP hD hS => ?_)
    have hP : va_P (dC, dI) vwCl [(gN, .inr (4, [.ref bTh, .ref bXs, .ref bYs, .int r21, .int r22, .ref bA, .ref bB, .ref bC, .int n_rd, .ref bEd])), (bTh, .inl (cZ, 20, .inl n_th)), (bXs, .inl (cI, 20, .inl n_xs)), (bYs, .inl (cI, 20, .inl n_ys)), (bA, .inl (cI, 40, .inl r23)), (bB, .inl (cI, 40, .inl r24)), (bC, .inl (cI, 40, .inl r25))] H := hP.sub [0, 1, 2, 3, 4, 5, 6] rfl
    have hD : va_D A [(gN, .inr (4, [.ref bTh, .ref bXs, .ref bYs, .int r21, .int r22, .ref bA, .ref bB, .ref bC, .int n_rd, .ref bEd])), (bTh, .inl (cZ, 20, .inl n_th)), (bXs, .inl (cI, 20, .inl n_xs)), (bYs, .inl (cI, 20, .inl n_ys)), (bA, .inl (cI, 40, .inl r23)), (bB, .inl (cI, 40, .inl r24)), (bC, .inl (cI, 40, .inl r25))] := hD.sub [0, 1, 2, 3, 4, 5, 6] (by decide) rfl
    refine lv_aload_n hx hb d_N_neighbours_14 rfl (lv_at hl 0 rfl) ?_
    refine va_get (D := (dC, dI)) (ci := 4) (v := .int r22) (C := R_N) (T := T_N) (N := 10) hx hb hts in_N hown hK.1 hP 0 rfl rfl 4 (by decide) (hts _ bw_361) (fun _ h9 => h9) rfl d_N_neighbours_15 ?_
    refine lv_if_ne (tgt := 27) hx hb d_N_neighbours_18 (by decide) (fun hc28 => ?_) (fun hc28 => ?_)
    · have hf := o_f hf hc28
      refine lv_iconst (v := (0 : Int32)) hx hb d_N_neighbours_27 rfl ?_
      refine lv_istore_n (lv' := [(2, .int (0 : Int32)), (0, .ref gN), (1, .int x1)]) hx hb d_N_neighbours_28 rfl hl (by decide) rfl (fun ls hl => ?_)
      refine lv_iconst (v := (0 : Int32)) hx hb d_N_neighbours_29 rfl ?_
      refine lv_istore_n (lv' := [(3, .int (0 : Int32)), (2, .int (0 : Int32)), (0, .ref gN), (1, .int x1)]) hx hb d_N_neighbours_30 rfl hl (by decide) rfl (fun ls hl => ?_)
      exact t_N_neighbours_L31 C0 hK hA  600 r21 r22 r23 r24 r25 x1 (0 : Int32) (0 : Int32) hf _ _ hP hD hS ls (lv_sub hl [2, 3, 1, 0] rfl)
    · have hf := o_t hf hc28
      refine lv_aload_n hx hb d_N_neighbours_21 rfl (lv_at hl 0 rfl) ?_
      refine lv_iload_n hx hb d_N_neighbours_22 rfl (lv_at hl 1 rfl) ?_
      obtain ⟨r29, hv31, hf⟩ := o_b hf
      refine rc_i (va_runV (As := [.int x1]) (rest := []) ⟨hx, hb, hml, hown, hts⟩ (c_N_flatNeighbours l dC dI cI cZ gN bTh bXs bYs bA bB bC bEd n_th n_xs n_ys r21 r22 n_rd x1 r29 hv31) (cwV 1 hts (gd_V bw_489 bw_491 bp_22 bw_5 bw_492) rfl rfl rfl ⟨rfl, hd_N_flatNeighbours⟩ ⟨Nat.le_of_ble_eq_true rfl, Nat.le_of_ble_eq_true rfl⟩) (pv_r (wc := [(gN, .inr (4, [.ref bTh, .ref bXs, .ref bYs, .int r21, .int r22, .ref bA, .ref bB, .ref bC, .int n_rd, .ref bEd])), (bTh, .inl (cZ, 20, .inl n_th)), (bXs, .inl (cI, 20, .inl n_xs)), (bYs, .inl (cI, 20, .inl n_ys))]) hK hP [0, 1, 2, 3] rfl 0 (ci := 4) rfl rfl) rfl rfl hl.1 rfl (lv_room (Nat.le_of_ble_eq_true rfl)) d_N_neighbours_23 ⟨Nat.zero_le _, Nat.zero_le _⟩) ?_
      cases hf
      exact wr_i hx hb hr hlocks hP hD hS d_N_neighbours_26
  · have hf := o_t hf hc20
    refine lv_iconst (v := (-1 : Int32)) hx hb d_N_neighbours_8 rfl ?_
    cases hf
    exact wr_i hx hb hr hlocks hP hD hS d_N_neighbours_9
set_option maxHeartbeats 4000000 in
set_option maxRecDepth 100000 in
theorem c_N_neighbours (l : Launch) (dC : Nat → ClassId) (dI : Nat → Nat → Nat) (cI cZ : ClassId) (gN bTh bXs bYs bA bB bC bEd : Nat) (n_th : Nat → Int32) (n_xs : Nat → Int32) (n_ys : Nat → Int32) (n_kn : Int32) (n_ct : Int32) (n_a : Nat → Int32) (n_b : Nat → Int32) (n_c : Nat → Int32) (n_rd : Int32) (x1 : Int32) (rv : Int32) (n_kn' : Int32) (n_ct' : Int32) (n_a' : Nat → Int32) (n_b' : Nat → Int32) (n_c' : Nat → Int32) (sz : Nat) (hf : f_N_neighbours n_th n_xs n_ys n_kn n_ct n_a n_b n_c x1 = some (rv, n_kn', n_ct', n_a', n_b', n_c')) : Met l y_N_neighbours w_N_neighbours ({ frames := 5, cells := 0, slots := 0, locals := 145 } : Room) (PcW dC dI cI cZ [.ref gN, .int x1] [(gN, .inr (4, [.ref bTh, .ref bXs, .ref bYs, .int n_kn, .int n_ct, .ref bA, .ref bB, .ref bC, .int n_rd, .ref bEd])), (bTh, .inl (cZ, 20, .inl n_th)), (bXs, .inl (cI, 20, .inl n_xs)), (bYs, .inl (cI, 20, .inl n_ys)), (bA, .inl (cI, 40, .inl n_a)), (bB, .inl (cI, 40, .inl n_b)), (bC, .inl (cI, 40, .inl n_c))] sz) (QwI dC dI (va_A [(gN, .inr (4, [.ref bTh, .ref bXs, .ref bYs, .int n_kn, .int n_ct, .ref bA, .ref bB, .ref bC, .int n_rd, .ref bEd])), (bTh, .inl (cZ, 20, .inl n_th)), (bXs, .inl (cI, 20, .inl n_xs)), (bYs, .inl (cI, 20, .inl n_ys)), (bA, .inl (cI, 40, .inl n_a)), (bB, .inl (cI, 40, .inl n_b)), (bC, .inl (cI, 40, .inl n_c))] sz) [(gN, .inr (4, [.ref bTh, .ref bXs, .ref bYs, .int n_kn', .int n_ct', .ref bA, .ref bB, .ref bC, .int n_rd, .ref bEd])), (bTh, .inl (cZ, 20, .inl n_th)), (bXs, .inl (cI, 20, .inl n_xs)), (bYs, .inl (cI, 20, .inl n_ys)), (bA, .inl (cI, 40, .inl n_a')), (bB, .inl (cI, 40, .inl n_b')), (bC, .inl (cI, 40, .inl n_c'))] rv) 0 0 (va_A [(gN, .inr (4, [.ref bTh, .ref bXs, .ref bYs, .int n_kn, .int n_ct, .ref bA, .ref bB, .ref bC, .int n_rd, .ref bEd])), (bTh, .inl (cZ, 20, .inl n_th)), (bXs, .inl (cI, 20, .inl n_xs)), (bYs, .inl (cI, 20, .inl n_ys)), (bA, .inl (cI, 40, .inl n_a)), (bB, .inl (cI, 40, .inl n_b)), (bC, .inl (cI, 40, .inl n_c))] sz) := by
  refine Met.ofW (cc := b_N_neighbours) (maxL := 4) (ret := (some .int)) (by decide) rfl ?_
  intro p e s m args below meth c s₁ B hml hv
  obtain ⟨rfl, hsz, hP, hK, hD0⟩ := hv
  have C0 : cx p s m _ meth c b_N_neighbours (some .int) 4 R_N := ⟨B.exec, B.bytes, B.returns, hml, fun w hw => atoms_spec (ws := w_N_neighbours) B.pre w (List.mem_cons_of_mem _ hw), findClass_of_methodNamed B.named, B.notSynchronized⟩
  subst hsz
  have hD := hD0.self (sz := s.heap.size)
  generalize hAe : va_A [(gN, .inr (4, [.ref bTh, .ref bXs, .ref bYs, .int n_kn, .int n_ct, .ref bA, .ref bB, .ref bC, .int n_rd, .ref bEd])), (bTh, .inl (cZ, 20, .inl n_th)), (bXs, .inl (cI, 20, .inl n_xs)), (bYs, .inl (cI, 20, .inl n_ys)), (bA, .inl (cI, 40, .inl n_a)), (bB, .inl (cI, 40, .inl n_b)), (bC, .inl (cI, 40, .inl n_c))] s.heap.size = A at hD ⊢
  have hA : ∀ q : Nat, s.heap.size ≤ q → A q := fun q h => by rw [← hAe]; exact Or.inr h
  have hl := lv_entry ([.ref gN, .int x1]) (n := 4) (Nat.le_of_ble_eq_true rfl)
  rw [lg_entry_eq]
  generalize (lg_sl ([.ref gN, .int x1]) ++ List.replicate (4 - (lg_sl ([.ref gN, .int x1])).length) Slot.unset).toArray = ls at hl ⊢
  have hl : lv_has ls 4 [(0, .ref gN), (1, .int x1)] := hl
  exact t_N_neighbours_e C0 hK hA n_kn n_ct n_a n_b n_c x1 hf _ _ hP hD va_S.rf ls hl
set_option maxHeartbeats 4000000 in
set_option maxRecDepth 100000 in
theorem t_N_earliest_L4 {p : Program} {l : Launch} {e : Env} {s : State} {m : MethodId} {args : Array Value} {below : List Frame} {meth : Method} {c : Code} {dC : Nat → ClassId} {dI : Nat → Nat → Nat} {cI cZ : ClassId} {gN bTh bXs bYs bA bB bC bEd : Nat} {n_th : Nat → Int32} {n_xs : Nat → Int32} {n_ys : Nat → Int32} {n_kn : Int32} {n_ct : Int32} {n_rd : Int32} {rv : Int32} (C0 : cx p s m args meth c b_N_earliest (some .int) 3 R_N) (hK : gK dC dI cI cZ s) (hP : va_P (dC, dI) vwCl [(gN, .inr (4, [.ref bTh, .ref bXs, .ref bYs, .int n_kn, .int n_ct, .ref bA, .ref bB, .ref bC, .int n_rd, .ref bEd])), (bTh, .inl (cZ, 20, .inl n_th)), (bXs, .inl (cI, 20, .inl n_xs)), (bYs, .inl (cI, 20, .inl n_ys))] s.heap) : ∀ (n : Nat) (x1 : Int32) (x2 : Int32), f_N_earliest_L4 n_th n_xs n_ys n x1 x2 = some rv → ∀ (ls : Array Slot), lv_has ls 3 [(0, .ref gN), (1, .int x1), (2, .int x2)] → W p l e (headSpec w_N_earliest ({ frames := 1, cells := 0, slots := 0, locals := 22 } : Room)).room s m args below meth c s.heap [] 0 0 (MQ below (vp_Si (fun r => r = rv)) args s 0 0 (fun _ => False)) (F0 m 4 ls []) := by
  obtain ⟨hx, hb, hr, hml, hts, hown, hlocks⟩ := id C0
  intro n
  induction n with
  | zero =>
    intro x1 x2 hf
    exact (o_n hf).elim
  | succ n ih =>
    intro x1 x2 hf ls hl
    refine lv_iload_n hx hb d_N_earliest_4 rfl (lv_at hl 2 rfl) ?_
    refine lv_bipush (v := (20 : Int32)) hx hb d_N_earliest_5 rfl ?_
    refine lv_icmp_ge (tgt := 44) hx hb d_N_earliest_7 (by decide) (fun hc1 => ?_) (fun hc1 => ?_)
    · have hf := o_t hf hc1
      refine lv_iload_n hx hb d_N_earliest_44 rfl (lv_at hl 1 rfl) ?_
      cases hf
      exact rr_i hx hb hr hlocks d_N_earliest_45
    · have hf := o_f hf hc1
      refine lv_aload_n hx hb d_N_earliest_10 rfl (lv_at hl 0 rfl) ?_
      refine va_get (D := (dC, dI)) (ci := 4) (v := .ref bTh) (C := R_N) (T := T_N) (N := 10) hx hb hts in_N hown hK.1 hP 0 rfl rfl 0 (by decide) (hts _ bw_357) (fun _ h9 => h9) rfl d_N_earliest_11 ?_
      refine lv_iload_n hx hb d_N_earliest_14 rfl (lv_at hl 2 rfl) ?_
      obtain ⟨hi2, hf⟩ := o_i hf
      refine va_zald (cA := cZ) (n := 20) (f := n_th) hx hb hK.1 hP 1 1 rfl rfl hi2 d_N_earliest_15 ?_
      refine lv_if_eq (tgt := 36) hx hb d_N_earliest_16 (by decide) (fun hc3 => ?_) (fun hc3 => ?_)
      · have hf := o_t hf hc3
        refine lv_iload_n hx hb d_N_earliest_36 rfl (lv_at hl 1 rfl) ?_
        refine lv_istore_n (lv' := [(1, .int x1), (0, .ref gN), (2, .int x2)]) hx hb d_N_earliest_37 rfl hl (by decide) rfl (fun ls hl => ?_)
        refine lv_iinc (v := (x2 + 1)) (lv' := [(2, .int (x2 + 1)), (1, .int x1), (0, .ref gN)]) hx hb d_N_earliest_38 hl (k := 2) rfl rfl (by decide) rfl (fun ls hl => ?_)
        refine lv_goto (tgt := 4) hx hb d_N_earliest_41 (by decide) ?_
        exact ih x1 (x2 + 1) hf ls (lv_sub hl [2, 1, 0] rfl)
      · have hf := o_f hf hc3
        refine lv_iload_n hx hb d_N_earliest_19 rfl (lv_at hl 1 rfl) ?_
        refine lv_if_lt (tgt := 32) hx hb d_N_earliest_20 (by decide) (fun hc4 => ?_) (fun hc4 => ?_)
        · have hf := o_t hf hc4
          refine lv_iload_n hx hb d_N_earliest_32 rfl (lv_at hl 2 rfl) ?_
          refine lv_goto (tgt := 37) hx hb d_N_earliest_33 (by decide) ?_
          refine lv_istore_n (lv' := [(1, .int x2), (0, .ref gN), (2, .int x2)]) hx hb d_N_earliest_37 rfl hl (by decide) rfl (fun ls hl => ?_)
          refine lv_iinc (v := (x2 + 1)) (lv' := [(2, .int (x2 + 1)), (1, .int x2), (0, .ref gN)]) hx hb d_N_earliest_38 hl (k := 2) rfl rfl (by decide) rfl (fun ls hl => ?_)
          refine lv_goto (tgt := 4) hx hb d_N_earliest_41 (by decide) ?_
          exact ih x2 (x2 + 1) hf ls (lv_sub hl [2, 1, 0] rfl)
        · have hf := o_f hf hc4
          refine lv_aload_n hx hb d_N_earliest_23 rfl (lv_at hl 0 rfl) ?_
          refine lv_iload_n hx hb d_N_earliest_24 rfl (lv_at hl 2 rfl) ?_
          refine lv_iload_n hx hb d_N_earliest_25 rfl (lv_at hl 1 rfl) ?_
          obtain ⟨r5, hv7, hf⟩ := o_b hf
          refine rc_i (va_runV (As := [.int x2, .int x1]) (rest := []) ⟨hx, hb, hml, hown, hts⟩ (c_N_earlier l dC dI cI cZ gN bTh bXs bYs bA bB bC bEd n_xs n_ys n_kn n_ct n_rd x2 x1 r5 hv7) (cwV 2 hts (gd_V bw_442 bw_444 bp_19 bw_5 bw_445) rfl rfl rfl ⟨rfl, hd_N_earlier⟩ ⟨Nat.le_of_ble_eq_true rfl, Nat.le_of_ble_eq_true rfl⟩) (pv_r (wc := [(gN, .inr (4, [.ref bTh, .ref bXs, .ref bYs, .int n_kn, .int n_ct, .ref bA, .ref bB, .ref bC, .int n_rd, .ref bEd])), (bXs, .inl (cI, 20, .inl n_xs)), (bYs, .inl (cI, 20, .inl n_ys))]) hK hP [0, 2, 3] rfl 0 (ci := 4) rfl rfl) rfl rfl hl.1 rfl (lv_room (Nat.le_of_ble_eq_true rfl)) d_N_earliest_26 ⟨Nat.zero_le _, Nat.zero_le _⟩) ?_
          refine lv_if_eq (tgt := 36) hx hb d_N_earliest_29 (by decide) (fun hc8 => ?_) (fun hc8 => ?_)
          · have hf := o_t hf hc8
            refine lv_iload_n hx hb d_N_earliest_36 rfl (lv_at hl 1 rfl) ?_
            refine lv_istore_n (lv' := [(1, .int x1), (0, .ref gN), (2, .int x2)]) hx hb d_N_earliest_37 rfl hl (by decide) rfl (fun ls hl => ?_)
            refine lv_iinc (v := (x2 + 1)) (lv' := [(2, .int (x2 + 1)), (1, .int x1), (0, .ref gN)]) hx hb d_N_earliest_38 hl (k := 2) rfl rfl (by decide) rfl (fun ls hl => ?_)
            refine lv_goto (tgt := 4) hx hb d_N_earliest_41 (by decide) ?_
            exact ih x1 (x2 + 1) hf ls (lv_sub hl [2, 1, 0] rfl)
          · have hf := o_f hf hc8
            refine lv_iload_n hx hb d_N_earliest_32 rfl (lv_at hl 2 rfl) ?_
            refine lv_goto (tgt := 37) hx hb d_N_earliest_33 (by decide) ?_
            refine lv_istore_n (lv' := [(1, .int x2), (0, .ref gN), (2, .int x2)]) hx hb d_N_earliest_37 rfl hl (by decide) rfl (fun ls hl => ?_)
            refine lv_iinc (v := (x2 + 1)) (lv' := [(2, .int (x2 + 1)), (1, .int x2), (0, .ref gN)]) hx hb d_N_earliest_38 hl (k := 2) rfl rfl (by decide) rfl (fun ls hl => ?_)
            refine lv_goto (tgt := 4) hx hb d_N_earliest_41 (by decide) ?_
            exact ih x2 (x2 + 1) hf ls (lv_sub hl [2, 1, 0] rfl)
set_option maxHeartbeats 4000000 in
set_option maxRecDepth 100000 in
theorem c_N_earliest (l : Launch) (dC : Nat → ClassId) (dI : Nat → Nat → Nat) (cI cZ : ClassId) (gN bTh bXs bYs bA bB bC bEd : Nat) (n_th : Nat → Int32) (n_xs : Nat → Int32) (n_ys : Nat → Int32) (n_kn : Int32) (n_ct : Int32) (n_rd : Int32) (rv : Int32) (hf : f_N_earliest n_th n_xs n_ys = some rv) : Met l y_N_earliest w_N_earliest ({ frames := 1, cells := 0, slots := 0, locals := 22 } : Room) (PcR dC dI cI cZ [.ref gN] [(gN, .inr (4, [.ref bTh, .ref bXs, .ref bYs, .int n_kn, .int n_ct, .ref bA, .ref bB, .ref bC, .int n_rd, .ref bEd])), (bTh, .inl (cZ, 20, .inl n_th)), (bXs, .inl (cI, 20, .inl n_xs)), (bYs, .inl (cI, 20, .inl n_ys))]) (vp_Si (fun r => r = rv)) 0 0 (fun _ => False) := by
  refine Met.ofW (cc := b_N_earliest) (maxL := 3) (ret := (some .int)) (by decide) rfl ?_
  intro p e s m args below meth c s₁ B hml hv
  obtain ⟨rfl, hP, hK⟩ := hv
  have C0 : cx p s m _ meth c b_N_earliest (some .int) 3 R_N := ⟨B.exec, B.bytes, B.returns, hml, fun w hw => atoms_spec (ws := w_N_earliest) B.pre w (List.mem_cons_of_mem _ hw), findClass_of_methodNamed B.named, B.notSynchronized⟩
  obtain ⟨hx, hb, hr, hml, hts, hown, hlocks⟩ := id C0
  have hl := lv_entry ([.ref gN]) (n := 3) (Nat.le_of_ble_eq_true rfl)
  rw [lg_entry_eq]
  generalize (lg_sl ([.ref gN]) ++ List.replicate (3 - (lg_sl ([.ref gN])).length) Slot.unset).toArray = ls at hl ⊢
  have hl : lv_has ls 3 [(0, .ref gN)] := hl
  refine lv_iconst (v := (-1 : Int32)) hx hb d_N_earliest_0 rfl ?_
  refine lv_istore_n (lv' := [(1, .int (-1 : Int32)), (0, .ref gN)]) hx hb d_N_earliest_1 rfl hl (by decide) rfl (fun ls hl => ?_)
  refine lv_iconst (v := (0 : Int32)) hx hb d_N_earliest_2 rfl ?_
  refine lv_istore_n (lv' := [(2, .int (0 : Int32)), (1, .int (-1 : Int32)), (0, .ref gN)]) hx hb d_N_earliest_3 rfl hl (by decide) rfl (fun ls hl => ?_)
  exact t_N_earliest_L4 C0 hK hP  600 (-1 : Int32) (0 : Int32) hf ls (lv_sub hl [2, 1, 0] rfl)
set_option maxHeartbeats 4000000 in
set_option maxRecDepth 100000 in
theorem c_N_distance (l : Launch) (dC : Nat → ClassId) (dI : Nat → Nat → Nat) (cI cZ : ClassId) (gN bTh bXs bYs bA bB bC bEd : Nat) (n_xs : Nat → Int32) (n_ys : Nat → Int32) (n_kn : Int32) (n_ct : Int32) (n_rd : Int32) (x1 : Int32) (x2 : Int32) (rv : Int64) (hf : f_N_distance n_xs n_ys x1 x2 = some rv) : Met l y_N_distance w_N_distance ({ frames := 0, cells := 0, slots := 0, locals := 0 } : Room) (PcR dC dI cI cZ [.ref gN, .int x1, .int x2] [(gN, .inr (4, [.ref bTh, .ref bXs, .ref bYs, .int n_kn, .int n_ct, .ref bA, .ref bB, .ref bC, .int n_rd, .ref bEd])), (bXs, .inl (cI, 20, .inl n_xs)), (bYs, .inl (cI, 20, .inl n_ys))]) (vp_Sl (fun r => r = rv)) 0 0 (fun _ => False) := by
  refine Met.ofW (cc := b_N_distance) (maxL := 7) (ret := (some .long)) (by decide) rfl ?_
  intro p e s m args below meth c s₁ B hml hv
  obtain ⟨rfl, hP, hK⟩ := hv
  have C0 : cx p s m _ meth c b_N_distance (some .long) 7 R_N := ⟨B.exec, B.bytes, B.returns, hml, fun w hw => atoms_spec (ws := w_N_distance) B.pre w (List.mem_cons_of_mem _ hw), findClass_of_methodNamed B.named, B.notSynchronized⟩
  obtain ⟨hx, hb, hr, hml, hts, hown, hlocks⟩ := id C0
  have hl := lv_entry ([.ref gN, .int x1, .int x2]) (n := 7) (Nat.le_of_ble_eq_true rfl)
  rw [lg_entry_eq]
  generalize (lg_sl ([.ref gN, .int x1, .int x2]) ++ List.replicate (7 - (lg_sl ([.ref gN, .int x1, .int x2])).length) Slot.unset).toArray = ls at hl ⊢
  have hl : lv_has ls 7 [(0, .ref gN), (1, .int x1), (2, .int x2)] := hl
  refine lv_aload_n hx hb d_N_distance_0 rfl (lv_at hl 0 rfl) ?_
  refine va_get (D := (dC, dI)) (ci := 4) (v := .ref bXs) (C := R_N) (T := T_N) (N := 10) hx hb hts in_N hown hK.1 hP 0 rfl rfl 1 (by decide) (hts _ bw_358) (fun _ h9 => h9) rfl d_N_distance_1 ?_
  refine lv_iload_n hx hb d_N_distance_4 rfl (lv_at hl 1 rfl) ?_
  obtain ⟨hi1, hf⟩ := o_i hf
  refine va_iald (cA := cI) (n := 20) (f := n_xs) hx hb hK.1 hP 1 0 rfl rfl hi1 d_N_distance_5 ?_
  refine lv_aload_n hx hb d_N_distance_6 rfl (lv_at hl 0 rfl) ?_
  refine va_get (D := (dC, dI)) (ci := 4) (v := .ref bXs) (C := R_N) (T := T_N) (N := 10) hx hb hts in_N hown hK.1 hP 0 rfl rfl 1 (by decide) (hts _ bw_358) (fun _ h9 => h9) rfl d_N_distance_7 ?_
  refine lv_iload_n hx hb d_N_distance_10 rfl (lv_at hl 2 rfl) ?_
  obtain ⟨hi2, hf⟩ := o_i hf
  refine va_iald (cA := cI) (n := 20) (f := n_xs) hx hb hK.1 hP 1 0 rfl rfl hi2 d_N_distance_11 ?_
  refine lv_isub hx hb d_N_distance_12 ?_
  refine lv_i2l hx hb d_N_distance_13 rfl ?_
  refine lv_lstore_n (lv' := [(3, .long ((n_xs x1.toNatClampNeg) - (n_xs x2.toNatClampNeg)).toInt64), (0, .ref gN), (1, .int x1), (2, .int x2)]) hx hb d_N_distance_14 rfl hl (by decide) rfl (fun ls hl => ?_)
  refine lv_aload_n hx hb d_N_distance_15 rfl (lv_at hl 1 rfl) ?_
  refine va_get (D := (dC, dI)) (ci := 4) (v := .ref bYs) (C := R_N) (T := T_N) (N := 10) hx hb hts in_N hown hK.1 hP 0 rfl rfl 2 (by decide) (hts _ bw_359) (fun _ h9 => h9) rfl d_N_distance_16 ?_
  refine lv_iload_n hx hb d_N_distance_19 rfl (lv_at hl 2 rfl) ?_
  obtain ⟨hi3, hf⟩ := o_i hf
  refine va_iald (cA := cI) (n := 20) (f := n_ys) hx hb hK.1 hP 2 0 rfl rfl hi3 d_N_distance_20 ?_
  refine lv_aload_n hx hb d_N_distance_21 rfl (lv_at hl 1 rfl) ?_
  refine va_get (D := (dC, dI)) (ci := 4) (v := .ref bYs) (C := R_N) (T := T_N) (N := 10) hx hb hts in_N hown hK.1 hP 0 rfl rfl 2 (by decide) (hts _ bw_359) (fun _ h9 => h9) rfl d_N_distance_22 ?_
  refine lv_iload_n hx hb d_N_distance_25 rfl (lv_at hl 3 rfl) ?_
  obtain ⟨hi4, hf⟩ := o_i hf
  refine va_iald (cA := cI) (n := 20) (f := n_ys) hx hb hK.1 hP 2 0 rfl rfl hi4 d_N_distance_26 ?_
  refine lv_isub hx hb d_N_distance_27 ?_
  refine lv_i2l hx hb d_N_distance_28 rfl ?_
  refine lv_lstore (lv' := [(5, .long ((n_ys x1.toNatClampNeg) - (n_ys x2.toNatClampNeg)).toInt64), (3, .long ((n_xs x1.toNatClampNeg) - (n_xs x2.toNatClampNeg)).toInt64), (0, .ref gN), (1, .int x1), (2, .int x2)]) hx hb d_N_distance_29 hl (by decide) rfl (fun ls hl => ?_)
  refine lv_lload_n hx hb d_N_distance_31 rfl (lv_at hl 1 rfl) ?_
  refine lv_lload_n hx hb d_N_distance_32 rfl (lv_at hl 1 rfl) ?_
  refine lv_lmul hx hb d_N_distance_33 ?_
  refine lv_lload hx hb d_N_distance_34 (lv_at hl 0 rfl) ?_
  refine lv_lload hx hb d_N_distance_36 (lv_at hl 0 rfl) ?_
  refine lv_lmul hx hb d_N_distance_38 ?_
  refine lv_ladd hx hb d_N_distance_39 ?_
  cases hf
  exact rr_l hx hb hr hlocks d_N_distance_40
set_option maxHeartbeats 4000000 in
set_option maxRecDepth 100000 in
theorem t_N_onward_b80 {p : Program} {l : Launch} {e : Env} {s : State} {m : MethodId} {args : Array Value} {below : List Frame} {meth : Method} {c : Code} {dC : Nat → ClassId} {dI : Nat → Nat → Nat} {cI cZ : ClassId} {gN bTh bXs bYs bA bB bC bEd : Nat} {n_th : Nat → Int32} {n_xs : Nat → Int32} {n_ys : Nat → Int32} {n_kn : Int32} {n_ct : Int32} {n_rd : Int32} {rv : Int32} (C0 : cx p s m args meth c b_N_onward (some .int) 6 R_N) (hK : gK dC dI cI cZ s) (hP : va_P (dC, dI) vwCl [(gN, .inr (4, [.ref bTh, .ref bXs, .ref bYs, .int n_kn, .int n_ct, .ref bA, .ref bB, .ref bC, .int n_rd, .ref bEd])), (bTh, .inl (cZ, 20, .inl n_th)), (bXs, .inl (cI, 20, .inl n_xs)), (bYs, .inl (cI, 20, .inl n_ys))] s.heap) {k4 : Int32 → Int32 → Int32 → Option (Int32)} (hk4 : ∀ (x1 : Int32) (x2 : Int32) (x3 : Int32), k4 x1 x2 x3 = some rv → ∀ (ls : Array Slot), lv_has ls 6 [(0, .ref gN), (1, .int x1), (2, .int x2), (3, .int x3)] → W p l e (headSpec w_N_onward ({ frames := 2, cells := 0, slots := 0, locals := 49 } : Room)).room s m args below meth c s.heap [] 0 0 (MQ below (vp_Si (fun r => r = rv)) args s 0 0 (fun _ => False)) (F0 m 4 ls [])) : ∀ (x1 : Int32) (x2 : Int32) (x3 : Int32) (x4 : Int32), f_N_onward_b80 k4 n_th n_xs n_ys x1 x2 x3 x4 = some rv → ∀ (ls : Array Slot), lv_has ls 6 [(0, .ref gN), (1, .int x1), (2, .int x2), (3, .int x3), (4, .int x4)] → W p l e (headSpec w_N_onward ({ frames := 2, cells := 0, slots := 0, locals := 49 } : Room)).room s m args below meth c s.heap [] 0 0 (MQ below (vp_Si (fun r => r = rv)) args s 0 0 (fun _ => False)) (F0 m 80 ls []) := by
  obtain ⟨hx, hb, hr, hml, hts, hown, hlocks⟩ := id C0
  intro x1 x2 x3 x4 hf ls hl
  refine lv_iload hx hb d_N_onward_80 (lv_at hl 4 rfl) ?_
  refine lv_if_eq (tgt := 109) hx hb d_N_onward_82 (by decide) (fun hc1 => ?_) (fun hc1 => ?_)
  · have hf := o_t hf hc1
    refine lv_iload_n hx hb d_N_onward_109 rfl (lv_at hl 2 rfl) ?_
    refine lv_istore_n (lv' := [(2, .int x2), (0, .ref gN), (1, .int x1), (3, .int x3), (4, .int x4)]) hx hb d_N_onward_110 rfl hl (by decide) rfl (fun ls hl => ?_)
    refine lv_iinc (v := (x3 + 1)) (lv' := [(3, .int (x3 + 1)), (2, .int x2), (0, .ref gN), (1, .int x1), (4, .int x4)]) hx hb d_N_onward_111 hl (k := 3) rfl rfl (by decide) rfl (fun ls hl => ?_)
    refine lv_goto (tgt := 4) hx hb d_N_onward_114 (by decide) ?_
    exact hk4 x1 x2 (x3 + 1) hf ls (lv_sub hl [2, 3, 1, 0] rfl)
  · have hf := o_f hf hc1
    refine lv_iload_n hx hb d_N_onward_85 rfl (lv_at hl 2 rfl) ?_
    refine lv_if_lt (tgt := 105) hx hb d_N_onward_86 (by decide) (fun hc2 => ?_) (fun hc2 => ?_)
    · have hf := o_t hf hc2
      refine lv_iload_n hx hb d_N_onward_105 rfl (lv_at hl 3 rfl) ?_
      refine lv_goto (tgt := 110) hx hb d_N_onward_106 (by decide) ?_
      refine lv_istore_n (lv' := [(2, .int x3), (0, .ref gN), (1, .int x1), (3, .int x3), (4, .int x4)]) hx hb d_N_onward_110 rfl hl (by decide) rfl (fun ls hl => ?_)
      refine lv_iinc (v := (x3 + 1)) (lv' := [(3, .int (x3 + 1)), (2, .int x3), (0, .ref gN), (1, .int x1), (4, .int x4)]) hx hb d_N_onward_111 hl (k := 3) rfl rfl (by decide) rfl (fun ls hl => ?_)
      refine lv_goto (tgt := 4) hx hb d_N_onward_114 (by decide) ?_
      exact hk4 x1 x3 (x3 + 1) hf ls (lv_sub hl [2, 3, 1, 0] rfl)
    · have hf := o_f hf hc2
      refine lv_aload_n hx hb d_N_onward_89 rfl (lv_at hl 0 rfl) ?_
      refine lv_iload_n hx hb d_N_onward_90 rfl (lv_at hl 1 rfl) ?_
      refine lv_iload_n hx hb d_N_onward_91 rfl (lv_at hl 3 rfl) ?_
      obtain ⟨r3, hv5, hf⟩ := o_b hf
      refine rc_l (va_runV (As := [.int x1, .int x3]) (rest := []) ⟨hx, hb, hml, hown, hts⟩ (c_N_distance l dC dI cI cZ gN bTh bXs bYs bA bB bC bEd n_xs n_ys n_kn n_ct n_rd x1 x3 r3 hv5) (cwV 2 hts (gd_V bw_521 bw_523 bp_29 bw_5 bw_524) rfl rfl rfl ⟨rfl, hd_N_distance⟩ ⟨Nat.le_of_ble_eq_true rfl, Nat.le_of_ble_eq_true rfl⟩) (pv_r (wc := [(gN, .inr (4, [.ref bTh, .ref bXs, .ref bYs, .int n_kn, .int n_ct, .ref bA, .ref bB, .ref bC, .int n_rd, .ref bEd])), (bXs, .inl (cI, 20, .inl n_xs)), (bYs, .inl (cI, 20, .inl n_ys))]) hK hP [0, 2, 3] rfl 0 (ci := 4) rfl rfl) rfl rfl hl.1 rfl (lv_room (Nat.le_of_ble_eq_true rfl)) d_N_onward_92 ⟨Nat.zero_le _, Nat.zero_le _⟩) ?_
      refine lv_aload_n hx hb d_N_onward_95 rfl (lv_at hl 0 rfl) ?_
      refine lv_iload_n hx hb d_N_onward_96 rfl (lv_at hl 1 rfl) ?_
      refine lv_iload_n hx hb d_N_onward_97 rfl (lv_at hl 2 rfl) ?_
      obtain ⟨r6, hv8, hf⟩ := o_b hf
      refine rc_l (va_runV (As := [.int x1, .int x2]) (rest := [.long r3]) ⟨hx, hb, hml, hown, hts⟩ (c_N_distance l dC dI cI cZ gN bTh bXs bYs bA bB bC bEd n_xs n_ys n_kn n_ct n_rd x1 x2 r6 hv8) (cwV 2 hts (gd_V bw_521 bw_523 bp_29 bw_5 bw_524) rfl rfl rfl ⟨rfl, hd_N_distance⟩ ⟨Nat.le_of_ble_eq_true rfl, Nat.le_of_ble_eq_true rfl⟩) (pv_r (wc := [(gN, .inr (4, [.ref bTh, .ref bXs, .ref bYs, .int n_kn, .int n_ct, .ref bA, .ref bB, .ref bC, .int n_rd, .ref bEd])), (bXs, .inl (cI, 20, .inl n_xs)), (bYs, .inl (cI, 20, .inl n_ys))]) hK hP [0, 2, 3] rfl 0 (ci := 4) rfl rfl) rfl rfl hl.1 rfl (lv_room (Nat.le_of_ble_eq_true rfl)) d_N_onward_98 ⟨Nat.zero_le _, Nat.zero_le _⟩) ?_
      refine W.lcmp hx hb d_N_onward_101 ?_
      refine lv_if_ge (tgt := 109) hx hb d_N_onward_102 (by decide) (fun hc9 => ?_) (fun hc9 => ?_)
      · have hf := o_t hf hc9
        refine lv_iload_n hx hb d_N_onward_109 rfl (lv_at hl 2 rfl) ?_
        refine lv_istore_n (lv' := [(2, .int x2), (0, .ref gN), (1, .int x1), (3, .int x3), (4, .int x4)]) hx hb d_N_onward_110 rfl hl (by decide) rfl (fun ls hl => ?_)
        refine lv_iinc (v := (x3 + 1)) (lv' := [(3, .int (x3 + 1)), (2, .int x2), (0, .ref gN), (1, .int x1), (4, .int x4)]) hx hb d_N_onward_111 hl (k := 3) rfl rfl (by decide) rfl (fun ls hl => ?_)
        refine lv_goto (tgt := 4) hx hb d_N_onward_114 (by decide) ?_
        exact hk4 x1 x2 (x3 + 1) hf ls (lv_sub hl [2, 3, 1, 0] rfl)
      · have hf := o_f hf hc9
        refine lv_iload_n hx hb d_N_onward_105 rfl (lv_at hl 3 rfl) ?_
        refine lv_goto (tgt := 110) hx hb d_N_onward_106 (by decide) ?_
        refine lv_istore_n (lv' := [(2, .int x3), (0, .ref gN), (1, .int x1), (3, .int x3), (4, .int x4)]) hx hb d_N_onward_110 rfl hl (by decide) rfl (fun ls hl => ?_)
        refine lv_iinc (v := (x3 + 1)) (lv' := [(3, .int (x3 + 1)), (2, .int x3), (0, .ref gN), (1, .int x1), (4, .int x4)]) hx hb d_N_onward_111 hl (k := 3) rfl rfl (by decide) rfl (fun ls hl => ?_)
        refine lv_goto (tgt := 4) hx hb d_N_onward_114 (by decide) ?_
        exact hk4 x1 x3 (x3 + 1) hf ls (lv_sub hl [2, 3, 1, 0] rfl)
set_option maxHeartbeats 4000000 in
set_option maxRecDepth 100000 in
theorem t_N_onward_L34 {p : Program} {l : Launch} {e : Env} {s : State} {m : MethodId} {args : Array Value} {below : List Frame} {meth : Method} {c : Code} {dC : Nat → ClassId} {dI : Nat → Nat → Nat} {cI cZ : ClassId} {gN bTh bXs bYs bA bB bC bEd : Nat} {n_th : Nat → Int32} {n_xs : Nat → Int32} {n_ys : Nat → Int32} {n_kn : Int32} {n_ct : Int32} {n_rd : Int32} {rv : Int32} (C0 : cx p s m args meth c b_N_onward (some .int) 6 R_N) (hK : gK dC dI cI cZ s) (hP : va_P (dC, dI) vwCl [(gN, .inr (4, [.ref bTh, .ref bXs, .ref bYs, .int n_kn, .int n_ct, .ref bA, .ref bB, .ref bC, .int n_rd, .ref bEd])), (bTh, .inl (cZ, 20, .inl n_th)), (bXs, .inl (cI, 20, .inl n_xs)), (bYs, .inl (cI, 20, .inl n_ys))] s.heap) {k4 : Int32 → Int32 → Int32 → Option (Int32)} (hk4 : ∀ (x1 : Int32) (x2 : Int32) (x3 : Int32), k4 x1 x2 x3 = some rv → ∀ (ls : Array Slot), lv_has ls 6 [(0, .ref gN), (1, .int x1), (2, .int x2), (3, .int x3)] → W p l e (headSpec w_N_onward ({ frames := 2, cells := 0, slots := 0, locals := 49 } : Room)).room s m args below meth c s.heap [] 0 0 (MQ below (vp_Si (fun r => r = rv)) args s 0 0 (fun _ => False)) (F0 m 4 ls [])) : ∀ (n : Nat) (x1 : Int32) (x2 : Int32) (x3 : Int32) (x4 : Int32) (x5 : Int32), f_N_onward_L34 k4 n_th n_xs n_ys n x1 x2 x3 x4 x5 = some rv → ∀ (ls : Array Slot), lv_has ls 6 [(0, .ref gN), (1, .int x1), (2, .int x2), (3, .int x3), (4, .int x4), (5, .int x5)] → W p l e (headSpec w_N_onward ({ frames := 2, cells := 0, slots := 0, locals := 49 } : Room)).room s m args below meth c s.heap [] 0 0 (MQ below (vp_Si (fun r => r = rv)) args s 0 0 (fun _ => False)) (F0 m 34 ls []) := by
  obtain ⟨hx, hb, hr, hml, hts, hown, hlocks⟩ := id C0
  intro n
  induction n with
  | zero =>
    intro x1 x2 x3 x4 x5 hf
    exact (o_n hf).elim
  | succ n ih =>
    intro x1 x2 x3 x4 x5 hf ls hl
    refine lv_iload hx hb d_N_onward_34 (lv_at hl 5 rfl) ?_
    refine lv_bipush (v := (20 : Int32)) hx hb d_N_onward_36 rfl ?_
    refine lv_icmp_ge (tgt := 80) hx hb d_N_onward_38 (by decide) (fun hc10 => ?_) (fun hc10 => ?_)
    · have hf := o_t hf hc10
      exact t_N_onward_b80 C0 hK hP (k4 := k4) hk4 x1 x2 x3 x4 hf ls (lv_sub hl [0, 1, 2, 3, 4] rfl)
    · have hf := o_f hf hc10
      refine lv_iload hx hb d_N_onward_41 (lv_at hl 4 rfl) ?_
      refine lv_if_eq (tgt := 80) hx hb d_N_onward_43 (by decide) (fun hc11 => ?_) (fun hc11 => ?_)
      · have hf := o_t hf hc11
        exact t_N_onward_b80 C0 hK hP (k4 := k4) hk4 x1 x2 x3 x4 hf ls (lv_sub hl [0, 1, 2, 3, 4] rfl)
      · have hf := o_f hf hc11
        refine lv_aload_n hx hb d_N_onward_46 rfl (lv_at hl 0 rfl) ?_
        refine va_get (D := (dC, dI)) (ci := 4) (v := .ref bTh) (C := R_N) (T := T_N) (N := 10) hx hb hts in_N hown hK.1 hP 0 rfl rfl 0 (by decide) (hts _ bw_357) (fun _ h9 => h9) rfl d_N_onward_47 ?_
        refine lv_iload hx hb d_N_onward_50 (lv_at hl 5 rfl) ?_
        obtain ⟨hi12, hf⟩ := o_i hf
        refine va_zald (cA := cZ) (n := 20) (f := n_th) hx hb hK.1 hP 1 1 rfl rfl hi12 d_N_onward_52 ?_
        refine lv_if_eq (tgt := 67) hx hb d_N_onward_53 (by decide) (fun hc13 => ?_) (fun hc13 => ?_)
        · have hf := o_t hf hc13
          refine lv_iconst (v := (1 : Int32)) hx hb d_N_onward_67 rfl ?_
          refine lv_goto (tgt := 72) hx hb d_N_onward_68 (by decide) ?_
          refine lv_istore (lv' := [(4, .int (1 : Int32)), (0, .ref gN), (1, .int x1), (2, .int x2), (3, .int x3), (5, .int x5)]) hx hb d_N_onward_72 hl (by decide) rfl (fun ls hl => ?_)
          refine lv_iinc (v := (x5 + 1)) (lv' := [(5, .int (x5 + 1)), (4, .int (1 : Int32)), (0, .ref gN), (1, .int x1), (2, .int x2), (3, .int x3)]) hx hb d_N_onward_74 hl (k := 5) rfl rfl (by decide) rfl (fun ls hl => ?_)
          refine lv_goto (tgt := 34) hx hb d_N_onward_77 (by decide) ?_
          exact ih x1 x2 x3 (1 : Int32) (x5 + 1) hf ls (lv_sub hl [2, 3, 4, 5, 1, 0] rfl)
        · have hf := o_f hf hc13
          refine lv_aload_n hx hb d_N_onward_56 rfl (lv_at hl 0 rfl) ?_
          refine lv_iload_n hx hb d_N_onward_57 rfl (lv_at hl 1 rfl) ?_
          refine lv_iload_n hx hb d_N_onward_58 rfl (lv_at hl 3 rfl) ?_
          refine lv_iload hx hb d_N_onward_59 (lv_at hl 5 rfl) ?_
          obtain ⟨r14, hv16, hf⟩ := o_b hf
          refine rc_i (va_runV (As := [.int x1, .int x3, .int x5]) (rest := []) ⟨hx, hb, hml, hown, hts⟩ (c_N_side l dC dI cI cZ gN bTh bXs bYs bA bB bC bEd n_xs n_ys n_kn n_ct n_rd x1 x3 x5 r14 hv16) (cwV 3 hts (gd_V bw_434 bw_436 bp_17 bw_5 bw_437) rfl rfl rfl ⟨rfl, hd_N_side⟩ ⟨Nat.le_of_ble_eq_true rfl, Nat.le_of_ble_eq_true rfl⟩) (pv_r (wc := [(gN, .inr (4, [.ref bTh, .ref bXs, .ref bYs, .int n_kn, .int n_ct, .ref bA, .ref bB, .ref bC, .int n_rd, .ref bEd])), (bXs, .inl (cI, 20, .inl n_xs)), (bYs, .inl (cI, 20, .inl n_ys))]) hK hP [0, 2, 3] rfl 0 (ci := 4) rfl rfl) rfl rfl hl.1 rfl (lv_room (Nat.le_of_ble_eq_true rfl)) d_N_onward_61 ⟨Nat.zero_le _, Nat.zero_le _⟩) ?_
          refine lv_if_lt (tgt := 71) hx hb d_N_onward_64 (by decide) (fun hc17 => ?_) (fun hc17 => ?_)
          · have hf := o_t hf hc17
            refine lv_iconst (v := (0 : Int32)) hx hb d_N_onward_71 rfl ?_
            refine lv_istore (lv' := [(4, .int (0 : Int32)), (0, .ref gN), (1, .int x1), (2, .int x2), (3, .int x3), (5, .int x5)]) hx hb d_N_onward_72 hl (by decide) rfl (fun ls hl => ?_)
            refine lv_iinc (v := (x5 + 1)) (lv' := [(5, .int (x5 + 1)), (4, .int (0 : Int32)), (0, .ref gN), (1, .int x1), (2, .int x2), (3, .int x3)]) hx hb d_N_onward_74 hl (k := 5) rfl rfl (by decide) rfl (fun ls hl => ?_)
            refine lv_goto (tgt := 34) hx hb d_N_onward_77 (by decide) ?_
            exact ih x1 x2 x3 (0 : Int32) (x5 + 1) hf ls (lv_sub hl [2, 3, 4, 5, 1, 0] rfl)
          · have hf := o_f hf hc17
            refine lv_iconst (v := (1 : Int32)) hx hb d_N_onward_67 rfl ?_
            refine lv_goto (tgt := 72) hx hb d_N_onward_68 (by decide) ?_
            refine lv_istore (lv' := [(4, .int (1 : Int32)), (0, .ref gN), (1, .int x1), (2, .int x2), (3, .int x3), (5, .int x5)]) hx hb d_N_onward_72 hl (by decide) rfl (fun ls hl => ?_)
            refine lv_iinc (v := (x5 + 1)) (lv' := [(5, .int (x5 + 1)), (4, .int (1 : Int32)), (0, .ref gN), (1, .int x1), (2, .int x2), (3, .int x3)]) hx hb d_N_onward_74 hl (k := 5) rfl rfl (by decide) rfl (fun ls hl => ?_)
            refine lv_goto (tgt := 34) hx hb d_N_onward_77 (by decide) ?_
            exact ih x1 x2 x3 (1 : Int32) (x5 + 1) hf ls (lv_sub hl [2, 3, 4, 5, 1, 0] rfl)
set_option maxHeartbeats 4000000 in
set_option maxRecDepth 100000 in
theorem t_N_onward_L4 {p : Program} {l : Launch} {e : Env} {s : State} {m : MethodId} {args : Array Value} {below : List Frame} {meth : Method} {c : Code} {dC : Nat → ClassId} {dI : Nat → Nat → Nat} {cI cZ : ClassId} {gN bTh bXs bYs bA bB bC bEd : Nat} {n_th : Nat → Int32} {n_xs : Nat → Int32} {n_ys : Nat → Int32} {n_kn : Int32} {n_ct : Int32} {n_rd : Int32} {rv : Int32} (C0 : cx p s m args meth c b_N_onward (some .int) 6 R_N) (hK : gK dC dI cI cZ s) (hP : va_P (dC, dI) vwCl [(gN, .inr (4, [.ref bTh, .ref bXs, .ref bYs, .int n_kn, .int n_ct, .ref bA, .ref bB, .ref bC, .int n_rd, .ref bEd])), (bTh, .inl (cZ, 20, .inl n_th)), (bXs, .inl (cI, 20, .inl n_xs)), (bYs, .inl (cI, 20, .inl n_ys))] s.heap) : ∀ (n : Nat) (x1 : Int32) (x2 : Int32) (x3 : Int32), f_N_onward_L4 n_th n_xs n_ys n x1 x2 x3 = some rv → ∀ (ls : Array Slot), lv_has ls 6 [(0, .ref gN), (1, .int x1), (2, .int x2), (3, .int x3)] → W p l e (headSpec w_N_onward ({ frames := 2, cells := 0, slots := 0, locals := 49 } : Room)).room s m args below meth c s.heap [] 0 0 (MQ below (vp_Si (fun r => r = rv)) args s 0 0 (fun _ => False)) (F0 m 4 ls []) := by
  obtain ⟨hx, hb, hr, hml, hts, hown, hlocks⟩ := id C0
  intro n
  induction n with
  | zero =>
    intro x1 x2 x3 hf
    exact (o_n hf).elim
  | succ n ih =>
    intro x1 x2 x3 hf ls hl
    refine lv_iload_n hx hb d_N_onward_4 rfl (lv_at hl 3 rfl) ?_
    refine lv_bipush (v := (20 : Int32)) hx hb d_N_onward_5 rfl ?_
    refine lv_icmp_ge (tgt := 117) hx hb d_N_onward_7 (by decide) (fun hc18 => ?_) (fun hc18 => ?_)
    · have hf := o_t hf hc18
      refine lv_iload_n hx hb d_N_onward_117 rfl (lv_at hl 2 rfl) ?_
      cases hf
      exact rr_i hx hb hr hlocks d_N_onward_118
    · have hf := o_f hf hc18
      refine lv_aload_n hx hb d_N_onward_10 rfl (lv_at hl 0 rfl) ?_
      refine va_get (D := (dC, dI)) (ci := 4) (v := .ref bTh) (C := R_N) (T := T_N) (N := 10) hx hb hts in_N hown hK.1 hP 0 rfl rfl 0 (by decide) (hts _ bw_357) (fun _ h9 => h9) rfl d_N_onward_11 ?_
      refine lv_iload_n hx hb d_N_onward_14 rfl (lv_at hl 3 rfl) ?_
      obtain ⟨hi19, hf⟩ := o_i hf
      refine va_zald (cA := cZ) (n := 20) (f := n_th) hx hb hK.1 hP 1 1 rfl rfl hi19 d_N_onward_15 ?_
      refine lv_if_eq (tgt := 28) hx hb d_N_onward_16 (by decide) (fun hc20 => ?_) (fun hc20 => ?_)
      · have hf := o_t hf hc20
        refine lv_iconst (v := (0 : Int32)) hx hb d_N_onward_28 rfl ?_
        refine lv_istore (lv' := [(4, .int (0 : Int32)), (0, .ref gN), (1, .int x1), (2, .int x2), (3, .int x3)]) hx hb d_N_onward_29 hl (by decide) rfl (fun ls hl => ?_)
        refine lv_iconst (v := (0 : Int32)) hx hb d_N_onward_31 rfl ?_
        refine lv_istore (lv' := [(5, .int (0 : Int32)), (4, .int (0 : Int32)), (0, .ref gN), (1, .int x1), (2, .int x2), (3, .int x3)]) hx hb d_N_onward_32 hl (by decide) rfl (fun ls hl => ?_)
        exact t_N_onward_L34 C0 hK hP (k4 := (fun x1 x2 x3 => f_N_onward_L4 n_th n_xs n_ys n x1 x2 x3)) ih 600 x1 x2 x3 (0 : Int32) (0 : Int32) hf ls (lv_sub hl [2, 3, 4, 5, 1, 0] rfl)
      · have hf := o_f hf hc20
        refine lv_iload_n hx hb d_N_onward_19 rfl (lv_at hl 3 rfl) ?_
        refine lv_iload_n hx hb d_N_onward_20 rfl (lv_at hl 1 rfl) ?_
        refine lv_icmp_eq (tgt := 28) hx hb d_N_onward_21 (by decide) (fun hc21 => ?_) (fun hc21 => ?_)
        · have hf := o_t hf hc21
          refine lv_iconst (v := (0 : Int32)) hx hb d_N_onward_28 rfl ?_
          refine lv_istore (lv' := [(4, .int (0 : Int32)), (0, .ref gN), (1, .int x1), (2, .int x2), (3, .int x3)]) hx hb d_N_onward_29 hl (by decide) rfl (fun ls hl => ?_)
          refine lv_iconst (v := (0 : Int32)) hx hb d_N_onward_31 rfl ?_
          refine lv_istore (lv' := [(5, .int (0 : Int32)), (4, .int (0 : Int32)), (0, .ref gN), (1, .int x1), (2, .int x2), (3, .int x3)]) hx hb d_N_onward_32 hl (by decide) rfl (fun ls hl => ?_)
          exact t_N_onward_L34 C0 hK hP (k4 := (fun x1 x2 x3 => f_N_onward_L4 n_th n_xs n_ys n x1 x2 x3)) ih 600 x1 x2 x3 (0 : Int32) (0 : Int32) hf ls (lv_sub hl [2, 3, 4, 5, 1, 0] rfl)
        · have hf := o_f hf hc21
          refine lv_iconst (v := (1 : Int32)) hx hb d_N_onward_24 rfl ?_
          refine lv_goto (tgt := 29) hx hb d_N_onward_25 (by decide) ?_
          refine lv_istore (lv' := [(4, .int (1 : Int32)), (0, .ref gN), (1, .int x1), (2, .int x2), (3, .int x3)]) hx hb d_N_onward_29 hl (by decide) rfl (fun ls hl => ?_)
          refine lv_iconst (v := (0 : Int32)) hx hb d_N_onward_31 rfl ?_
          refine lv_istore (lv' := [(5, .int (0 : Int32)), (4, .int (1 : Int32)), (0, .ref gN), (1, .int x1), (2, .int x2), (3, .int x3)]) hx hb d_N_onward_32 hl (by decide) rfl (fun ls hl => ?_)
          exact t_N_onward_L34 C0 hK hP (k4 := (fun x1 x2 x3 => f_N_onward_L4 n_th n_xs n_ys n x1 x2 x3)) ih 600 x1 x2 x3 (1 : Int32) (0 : Int32) hf ls (lv_sub hl [2, 3, 4, 5, 1, 0] rfl)
set_option maxHeartbeats 4000000 in
set_option maxRecDepth 100000 in
theorem c_N_onward (l : Launch) (dC : Nat → ClassId) (dI : Nat → Nat → Nat) (cI cZ : ClassId) (gN bTh bXs bYs bA bB bC bEd : Nat) (n_th : Nat → Int32) (n_xs : Nat → Int32) (n_ys : Nat → Int32) (n_kn : Int32) (n_ct : Int32) (n_rd : Int32) (x1 : Int32) (rv : Int32) (hf : f_N_onward n_th n_xs n_ys x1 = some rv) : Met l y_N_onward w_N_onward ({ frames := 2, cells := 0, slots := 0, locals := 49 } : Room) (PcR dC dI cI cZ [.ref gN, .int x1] [(gN, .inr (4, [.ref bTh, .ref bXs, .ref bYs, .int n_kn, .int n_ct, .ref bA, .ref bB, .ref bC, .int n_rd, .ref bEd])), (bTh, .inl (cZ, 20, .inl n_th)), (bXs, .inl (cI, 20, .inl n_xs)), (bYs, .inl (cI, 20, .inl n_ys))]) (vp_Si (fun r => r = rv)) 0 0 (fun _ => False) := by
  refine Met.ofW (cc := b_N_onward) (maxL := 6) (ret := (some .int)) (by decide) rfl ?_
  intro p e s m args below meth c s₁ B hml hv
  obtain ⟨rfl, hP, hK⟩ := hv
  have C0 : cx p s m _ meth c b_N_onward (some .int) 6 R_N := ⟨B.exec, B.bytes, B.returns, hml, fun w hw => atoms_spec (ws := w_N_onward) B.pre w (List.mem_cons_of_mem _ hw), findClass_of_methodNamed B.named, B.notSynchronized⟩
  obtain ⟨hx, hb, hr, hml, hts, hown, hlocks⟩ := id C0
  have hl := lv_entry ([.ref gN, .int x1]) (n := 6) (Nat.le_of_ble_eq_true rfl)
  rw [lg_entry_eq]
  generalize (lg_sl ([.ref gN, .int x1]) ++ List.replicate (6 - (lg_sl ([.ref gN, .int x1])).length) Slot.unset).toArray = ls at hl ⊢
  have hl : lv_has ls 6 [(0, .ref gN), (1, .int x1)] := hl
  refine lv_iconst (v := (-1 : Int32)) hx hb d_N_onward_0 rfl ?_
  refine lv_istore_n (lv' := [(2, .int (-1 : Int32)), (0, .ref gN), (1, .int x1)]) hx hb d_N_onward_1 rfl hl (by decide) rfl (fun ls hl => ?_)
  refine lv_iconst (v := (0 : Int32)) hx hb d_N_onward_2 rfl ?_
  refine lv_istore_n (lv' := [(3, .int (0 : Int32)), (2, .int (-1 : Int32)), (0, .ref gN), (1, .int x1)]) hx hb d_N_onward_3 rfl hl (by decide) rfl (fun ls hl => ?_)
  exact t_N_onward_L4 C0 hK hP  600 x1 (-1 : Int32) (0 : Int32) hf ls (lv_sub hl [2, 3, 1, 0] rfl)
set_option maxHeartbeats 4000000 in
set_option maxRecDepth 100000 in
theorem t_N_later_L4 {p : Program} {l : Launch} {e : Env} {s : State} {m : MethodId} {args : Array Value} {below : List Frame} {meth : Method} {c : Code} {dC : Nat → ClassId} {dI : Nat → Nat → Nat} {cI cZ : ClassId} {gN bTh bXs bYs bA bB bC bEd : Nat} {n_th : Nat → Int32} {n_xs : Nat → Int32} {n_ys : Nat → Int32} {n_kn : Int32} {n_ct : Int32} {n_rd : Int32} {rv : Int32} (C0 : cx p s m args meth c b_N_later (some .int) 4 R_N) (hK : gK dC dI cI cZ s) (hP : va_P (dC, dI) vwCl [(gN, .inr (4, [.ref bTh, .ref bXs, .ref bYs, .int n_kn, .int n_ct, .ref bA, .ref bB, .ref bC, .int n_rd, .ref bEd])), (bTh, .inl (cZ, 20, .inl n_th)), (bXs, .inl (cI, 20, .inl n_xs)), (bYs, .inl (cI, 20, .inl n_ys))] s.heap) : ∀ (n : Nat) (x1 : Int32) (x2 : Int32) (x3 : Int32), f_N_later_L4 n_th n_xs n_ys n x1 x2 x3 = some rv → ∀ (ls : Array Slot), lv_has ls 4 [(0, .ref gN), (1, .int x1), (2, .int x2), (3, .int x3)] → W p l e (headSpec w_N_later ({ frames := 1, cells := 0, slots := 0, locals := 22 } : Room)).room s m args below meth c s.heap [] 0 0 (MQ below (vp_Si (fun r => r = rv)) args s 0 0 (fun _ => False)) (F0 m 4 ls []) := by
  obtain ⟨hx, hb, hr, hml, hts, hown, hlocks⟩ := id C0
  intro n
  induction n with
  | zero =>
    intro x1 x2 x3 hf
    exact (o_n hf).elim
  | succ n ih =>
    intro x1 x2 x3 hf ls hl
    refine lv_iload_n hx hb d_N_later_4 rfl (lv_at hl 3 rfl) ?_
    refine lv_bipush (v := (20 : Int32)) hx hb d_N_later_5 rfl ?_
    refine lv_icmp_ge (tgt := 53) hx hb d_N_later_7 (by decide) (fun hc1 => ?_) (fun hc1 => ?_)
    · have hf := o_t hf hc1
      refine lv_iload_n hx hb d_N_later_53 rfl (lv_at hl 2 rfl) ?_
      cases hf
      exact rr_i hx hb hr hlocks d_N_later_54
    · have hf := o_f hf hc1
      refine lv_aload_n hx hb d_N_later_10 rfl (lv_at hl 0 rfl) ?_
      refine va_get (D := (dC, dI)) (ci := 4) (v := .ref bTh) (C := R_N) (T := T_N) (N := 10) hx hb hts in_N hown hK.1 hP 0 rfl rfl 0 (by decide) (hts _ bw_357) (fun _ h9 => h9) rfl d_N_later_11 ?_
      refine lv_iload_n hx hb d_N_later_14 rfl (lv_at hl 3 rfl) ?_
      obtain ⟨hi2, hf⟩ := o_i hf
      refine va_zald (cA := cZ) (n := 20) (f := n_th) hx hb hK.1 hP 1 1 rfl rfl hi2 d_N_later_15 ?_
      refine lv_if_eq (tgt := 45) hx hb d_N_later_16 (by decide) (fun hc3 => ?_) (fun hc3 => ?_)
      · have hf := o_t hf hc3
        refine lv_iload_n hx hb d_N_later_45 rfl (lv_at hl 2 rfl) ?_
        refine lv_istore_n (lv' := [(2, .int x2), (0, .ref gN), (1, .int x1), (3, .int x3)]) hx hb d_N_later_46 rfl hl (by decide) rfl (fun ls hl => ?_)
        refine lv_iinc (v := (x3 + 1)) (lv' := [(3, .int (x3 + 1)), (2, .int x2), (0, .ref gN), (1, .int x1)]) hx hb d_N_later_47 hl (k := 3) rfl rfl (by decide) rfl (fun ls hl => ?_)
        refine lv_goto (tgt := 4) hx hb d_N_later_50 (by decide) ?_
        exact ih x1 x2 (x3 + 1) hf ls (lv_sub hl [2, 3, 1, 0] rfl)
      · have hf := o_f hf hc3
        refine lv_aload_n hx hb d_N_later_19 rfl (lv_at hl 0 rfl) ?_
        refine lv_iload_n hx hb d_N_later_20 rfl (lv_at hl 1 rfl) ?_
        refine lv_iload_n hx hb d_N_later_21 rfl (lv_at hl 3 rfl) ?_
        obtain ⟨r4, hv6, hf⟩ := o_b hf
        refine rc_i (va_runV (As := [.int x1, .int x3]) (rest := []) ⟨hx, hb, hml, hown, hts⟩ (c_N_earlier l dC dI cI cZ gN bTh bXs bYs bA bB bC bEd n_xs n_ys n_kn n_ct n_rd x1 x3 r4 hv6) (cwV 2 hts (gd_V bw_442 bw_444 bp_19 bw_5 bw_445) rfl rfl rfl ⟨rfl, hd_N_earlier⟩ ⟨Nat.le_of_ble_eq_true rfl, Nat.le_of_ble_eq_true rfl⟩) (pv_r (wc := [(gN, .inr (4, [.ref bTh, .ref bXs, .ref bYs, .int n_kn, .int n_ct, .ref bA, .ref bB, .ref bC, .int n_rd, .ref bEd])), (bXs, .inl (cI, 20, .inl n_xs)), (bYs, .inl (cI, 20, .inl n_ys))]) hK hP [0, 2, 3] rfl 0 (ci := 4) rfl rfl) rfl rfl hl.1 rfl (lv_room (Nat.le_of_ble_eq_true rfl)) d_N_later_22 ⟨Nat.zero_le _, Nat.zero_le _⟩) ?_
        refine lv_if_eq (tgt := 45) hx hb d_N_later_25 (by decide) (fun hc7 => ?_) (fun hc7 => ?_)
        · have hf := o_t hf hc7
          refine lv_iload_n hx hb d_N_later_45 rfl (lv_at hl 2 rfl) ?_
          refine lv_istore_n (lv' := [(2, .int x2), (0, .ref gN), (1, .int x1), (3, .int x3)]) hx hb d_N_later_46 rfl hl (by decide) rfl (fun ls hl => ?_)
          refine lv_iinc (v := (x3 + 1)) (lv' := [(3, .int (x3 + 1)), (2, .int x2), (0, .ref gN), (1, .int x1)]) hx hb d_N_later_47 hl (k := 3) rfl rfl (by decide) rfl (fun ls hl => ?_)
          refine lv_goto (tgt := 4) hx hb d_N_later_50 (by decide) ?_
          exact ih x1 x2 (x3 + 1) hf ls (lv_sub hl [2, 3, 1, 0] rfl)
        · have hf := o_f hf hc7
          refine lv_iload_n hx hb d_N_later_28 rfl (lv_at hl 2 rfl) ?_
          refine lv_if_lt (tgt := 41) hx hb d_N_later_29 (by decide) (fun hc8 => ?_) (fun hc8 => ?_)
          · have hf := o_t hf hc8
            refine lv_iload_n hx hb d_N_later_41 rfl (lv_at hl 3 rfl) ?_
            refine lv_goto (tgt := 46) hx hb d_N_later_42 (by decide) ?_
            refine lv_istore_n (lv' := [(2, .int x3), (0, .ref gN), (1, .int x1), (3, .int x3)]) hx hb d_N_later_46 rfl hl (by decide) rfl (fun ls hl => ?_)
            refine lv_iinc (v := (x3 + 1)) (lv' := [(3, .int (x3 + 1)), (2, .int x3), (0, .ref gN), (1, .int x1)]) hx hb d_N_later_47 hl (k := 3) rfl rfl (by decide) rfl (fun ls hl => ?_)
            refine lv_goto (tgt := 4) hx hb d_N_later_50 (by decide) ?_
            exact ih x1 x3 (x3 + 1) hf ls (lv_sub hl [2, 3, 1, 0] rfl)
          · have hf := o_f hf hc8
            refine lv_aload_n hx hb d_N_later_32 rfl (lv_at hl 0 rfl) ?_
            refine lv_iload_n hx hb d_N_later_33 rfl (lv_at hl 3 rfl) ?_
            refine lv_iload_n hx hb d_N_later_34 rfl (lv_at hl 2 rfl) ?_
            obtain ⟨r9, hv11, hf⟩ := o_b hf
            refine rc_i (va_runV (As := [.int x3, .int x2]) (rest := []) ⟨hx, hb, hml, hown, hts⟩ (c_N_earlier l dC dI cI cZ gN bTh bXs bYs bA bB bC bEd n_xs n_ys n_kn n_ct n_rd x3 x2 r9 hv11) (cwV 2 hts (gd_V bw_442 bw_444 bp_19 bw_5 bw_445) rfl rfl rfl ⟨rfl, hd_N_earlier⟩ ⟨Nat.le_of_ble_eq_true rfl, Nat.le_of_ble_eq_true rfl⟩) (pv_r (wc := [(gN, .inr (4, [.ref bTh, .ref bXs, .ref bYs, .int n_kn, .int n_ct, .ref bA, .ref bB, .ref bC, .int n_rd, .ref bEd])), (bXs, .inl (cI, 20, .inl n_xs)), (bYs, .inl (cI, 20, .inl n_ys))]) hK hP [0, 2, 3] rfl 0 (ci := 4) rfl rfl) rfl rfl hl.1 rfl (lv_room (Nat.le_of_ble_eq_true rfl)) d_N_later_35 ⟨Nat.zero_le _, Nat.zero_le _⟩) ?_
            refine lv_if_eq (tgt := 45) hx hb d_N_later_38 (by decide) (fun hc12 => ?_) (fun hc12 => ?_)
            · have hf := o_t hf hc12
              refine lv_iload_n hx hb d_N_later_45 rfl (lv_at hl 2 rfl) ?_
              refine lv_istore_n (lv' := [(2, .int x2), (0, .ref gN), (1, .int x1), (3, .int x3)]) hx hb d_N_later_46 rfl hl (by decide) rfl (fun ls hl => ?_)
              refine lv_iinc (v := (x3 + 1)) (lv' := [(3, .int (x3 + 1)), (2, .int x2), (0, .ref gN), (1, .int x1)]) hx hb d_N_later_47 hl (k := 3) rfl rfl (by decide) rfl (fun ls hl => ?_)
              refine lv_goto (tgt := 4) hx hb d_N_later_50 (by decide) ?_
              exact ih x1 x2 (x3 + 1) hf ls (lv_sub hl [2, 3, 1, 0] rfl)
            · have hf := o_f hf hc12
              refine lv_iload_n hx hb d_N_later_41 rfl (lv_at hl 3 rfl) ?_
              refine lv_goto (tgt := 46) hx hb d_N_later_42 (by decide) ?_
              refine lv_istore_n (lv' := [(2, .int x3), (0, .ref gN), (1, .int x1), (3, .int x3)]) hx hb d_N_later_46 rfl hl (by decide) rfl (fun ls hl => ?_)
              refine lv_iinc (v := (x3 + 1)) (lv' := [(3, .int (x3 + 1)), (2, .int x3), (0, .ref gN), (1, .int x1)]) hx hb d_N_later_47 hl (k := 3) rfl rfl (by decide) rfl (fun ls hl => ?_)
              refine lv_goto (tgt := 4) hx hb d_N_later_50 (by decide) ?_
              exact ih x1 x3 (x3 + 1) hf ls (lv_sub hl [2, 3, 1, 0] rfl)
set_option maxHeartbeats 4000000 in
set_option maxRecDepth 100000 in
theorem c_N_later (l : Launch) (dC : Nat → ClassId) (dI : Nat → Nat → Nat) (cI cZ : ClassId) (gN bTh bXs bYs bA bB bC bEd : Nat) (n_th : Nat → Int32) (n_xs : Nat → Int32) (n_ys : Nat → Int32) (n_kn : Int32) (n_ct : Int32) (n_rd : Int32) (x1 : Int32) (rv : Int32) (hf : f_N_later n_th n_xs n_ys x1 = some rv) : Met l y_N_later w_N_later ({ frames := 1, cells := 0, slots := 0, locals := 22 } : Room) (PcR dC dI cI cZ [.ref gN, .int x1] [(gN, .inr (4, [.ref bTh, .ref bXs, .ref bYs, .int n_kn, .int n_ct, .ref bA, .ref bB, .ref bC, .int n_rd, .ref bEd])), (bTh, .inl (cZ, 20, .inl n_th)), (bXs, .inl (cI, 20, .inl n_xs)), (bYs, .inl (cI, 20, .inl n_ys))]) (vp_Si (fun r => r = rv)) 0 0 (fun _ => False) := by
  refine Met.ofW (cc := b_N_later) (maxL := 4) (ret := (some .int)) (by decide) rfl ?_
  intro p e s m args below meth c s₁ B hml hv
  obtain ⟨rfl, hP, hK⟩ := hv
  have C0 : cx p s m _ meth c b_N_later (some .int) 4 R_N := ⟨B.exec, B.bytes, B.returns, hml, fun w hw => atoms_spec (ws := w_N_later) B.pre w (List.mem_cons_of_mem _ hw), findClass_of_methodNamed B.named, B.notSynchronized⟩
  obtain ⟨hx, hb, hr, hml, hts, hown, hlocks⟩ := id C0
  have hl := lv_entry ([.ref gN, .int x1]) (n := 4) (Nat.le_of_ble_eq_true rfl)
  rw [lg_entry_eq]
  generalize (lg_sl ([.ref gN, .int x1]) ++ List.replicate (4 - (lg_sl ([.ref gN, .int x1])).length) Slot.unset).toArray = ls at hl ⊢
  have hl : lv_has ls 4 [(0, .ref gN), (1, .int x1)] := hl
  refine lv_iconst (v := (-1 : Int32)) hx hb d_N_later_0 rfl ?_
  refine lv_istore_n (lv' := [(2, .int (-1 : Int32)), (0, .ref gN), (1, .int x1)]) hx hb d_N_later_1 rfl hl (by decide) rfl (fun ls hl => ?_)
  refine lv_iconst (v := (0 : Int32)) hx hb d_N_later_2 rfl ?_
  refine lv_istore_n (lv' := [(3, .int (0 : Int32)), (2, .int (-1 : Int32)), (0, .ref gN), (1, .int x1)]) hx hb d_N_later_3 rfl hl (by decide) rfl (fun ls hl => ?_)
  exact t_N_later_L4 C0 hK hP  600 x1 (-1 : Int32) (0 : Int32) hf ls (lv_sub hl [2, 3, 1, 0] rfl)
set_option maxHeartbeats 4000000 in
set_option maxRecDepth 100000 in
theorem t_N_goRound_b69 {p : Program} {l : Launch} {e : Env} {s : State} {m : MethodId} {args : Array Value} {below : List Frame} {meth : Method} {c : Code} {dC : Nat → ClassId} {dI : Nat → Nat → Nat} {cI cZ : ClassId} {gN bTh bXs bYs bA bB bC bEd : Nat} {n_th : Nat → Int32} {n_xs : Nat → Int32} {n_ys : Nat → Int32} {n_kn' : Int32} {n_ct' : Int32} {n_a' : Nat → Int32} {n_b' : Nat → Int32} {n_c' : Nat → Int32} {n_rd' : Int32} {n_ed' : Nat → Int32} {A : Nat → Prop} (C0 : cx p s m args meth c b_N_goRound none 3 R_N) (hK : gK dC dI cI cZ s) (hA : ∀ q, s.heap.size ≤ q → A q) {k16 : Int32 → Int32 → (Nat → Int32) → (Nat → Int32) → (Nat → Int32) → Int32 → (Nat → Int32) → Int32 → Int32 → Option (Int32 × Int32 × (Nat → Int32) × (Nat → Int32) × (Nat → Int32) × Int32 × (Nat → Int32))} (hk16 : ∀ (n_kn : Int32) (n_ct : Int32) (n_a : Nat → Int32) (n_b : Nat → Int32) (n_c : Nat → Int32) (n_rd : Int32) (n_ed : Nat → Int32) (x1 : Int32) (x2 : Int32), k16 n_kn n_ct n_a n_b n_c n_rd n_ed x1 x2 = some (n_kn', n_ct', n_a', n_b', n_c', n_rd', n_ed') → ∀ (H : Heap) (locs : List Loc), va_P (dC, dI) vwCl [(gN, .inr (4, [.ref bTh, .ref bXs, .ref bYs, .int n_kn, .int n_ct, .ref bA, .ref bB, .ref bC, .int n_rd, .ref bEd])), (bTh, .inl (cZ, 20, .inl n_th)), (bXs, .inl (cI, 20, .inl n_xs)), (bYs, .inl (cI, 20, .inl n_ys)), (bA, .inl (cI, 40, .inl n_a)), (bB, .inl (cI, 40, .inl n_b)), (bC, .inl (cI, 40, .inl n_c)), (bEd, .inl (cI, 20, .inl n_ed))] H → va_D A [(gN, .inr (4, [.ref bTh, .ref bXs, .ref bYs, .int n_kn, .int n_ct, .ref bA, .ref bB, .ref bC, .int n_rd, .ref bEd])), (bTh, .inl (cZ, 20, .inl n_th)), (bXs, .inl (cI, 20, .inl n_xs)), (bYs, .inl (cI, 20, .inl n_ys)), (bA, .inl (cI, 40, .inl n_a)), (bB, .inl (cI, 40, .inl n_b)), (bC, .inl (cI, 40, .inl n_c)), (bEd, .inl (cI, 20, .inl n_ed))] → va_S A s.heap H locs → ∀ (ls : Array Slot), lv_has ls 3 [(0, .ref gN), (1, .int x1), (2, .int x2)] → W p l e (headSpec w_N_goRound ({ frames := 5, cells := 0, slots := 0, locals := 143 } : Room)).room s m args below meth c H locs 0 0 (MQ below (QwV dC dI A [(gN, .inr (4, [.ref bTh, .ref bXs, .ref bYs, .int n_kn', .int n_ct', .ref bA, .ref bB, .ref bC, .int n_rd', .ref bEd])), (bTh, .inl (cZ, 20, .inl n_th)), (bXs, .inl (cI, 20, .inl n_xs)), (bYs, .inl (cI, 20, .inl n_ys)), (bA, .inl (cI, 40, .inl n_a')), (bB, .inl (cI, 40, .inl n_b')), (bC, .inl (cI, 40, .inl n_c')), (bEd, .inl (cI, 20, .inl n_ed'))]) args s 0 0 A) (F0 m 16 ls [])) : ∀ (n_kn : Int32) (n_ct : Int32) (n_a : Nat → Int32) (n_b : Nat → Int32) (n_c : Nat → Int32) (n_rd : Int32) (n_ed : Nat → Int32) (x1 : Int32) (z0 : Int32), f_N_goRound_b69 k16 n_th n_xs n_ys n_kn n_ct n_a n_b n_c n_rd n_ed x1 z0 = some (n_kn', n_ct', n_a', n_b', n_c', n_rd', n_ed') → ∀ (H : Heap) (locs : List Loc), va_P (dC, dI) vwCl [(gN, .inr (4, [.ref bTh, .ref bXs, .ref bYs, .int n_kn, .int n_ct, .ref bA, .ref bB, .ref bC, .int n_rd, .ref bEd])), (bTh, .inl (cZ, 20, .inl n_th)), (bXs, .inl (cI, 20, .inl n_xs)), (bYs, .inl (cI, 20, .inl n_ys)), (bA, .inl (cI, 40, .inl n_a)), (bB, .inl (cI, 40, .inl n_b)), (bC, .inl (cI, 40, .inl n_c)), (bEd, .inl (cI, 20, .inl n_ed))] H → va_D A [(gN, .inr (4, [.ref bTh, .ref bXs, .ref bYs, .int n_kn, .int n_ct, .ref bA, .ref bB, .ref bC, .int n_rd, .ref bEd])), (bTh, .inl (cZ, 20, .inl n_th)), (bXs, .inl (cI, 20, .inl n_xs)), (bYs, .inl (cI, 20, .inl n_ys)), (bA, .inl (cI, 40, .inl n_a)), (bB, .inl (cI, 40, .inl n_b)), (bC, .inl (cI, 40, .inl n_c)), (bEd, .inl (cI, 20, .inl n_ed))] → va_S A s.heap H locs → ∀ (ls : Array Slot), lv_has ls 3 [(0, .ref gN), (1, .int x1)] → W p l e (headSpec w_N_goRound ({ frames := 5, cells := 0, slots := 0, locals := 143 } : Room)).room s m args below meth c H locs 0 0 (MQ below (QwV dC dI A [(gN, .inr (4, [.ref bTh, .ref bXs, .ref bYs, .int n_kn', .int n_ct', .ref bA, .ref bB, .ref bC, .int n_rd', .ref bEd])), (bTh, .inl (cZ, 20, .inl n_th)), (bXs, .inl (cI, 20, .inl n_xs)), (bYs, .inl (cI, 20, .inl n_ys)), (bA, .inl (cI, 40, .inl n_a')), (bB, .inl (cI, 40, .inl n_b')), (bC, .inl (cI, 40, .inl n_c')), (bEd, .inl (cI, 20, .inl n_ed'))]) args s 0 0 A) (F0 m 69 ls [.int z0]) := by
  obtain ⟨hx, hb, hr, hml, hts, hown, hlocks⟩ := id C0
  intro n_kn n_ct n_a n_b n_c n_rd n_ed x1 z0 hf H locs hP hD hS ls hl
  refine lv_istore_n (lv' := [(2, .int z0), (0, .ref gN), (1, .int x1)]) hx hb d_N_goRound_69 rfl hl (by decide) rfl (fun ls hl => ?_)
  refine lv_iload_n hx hb d_N_goRound_70 rfl (lv_at hl 0 rfl) ?_
  refine lv_iload_n hx hb d_N_goRound_71 rfl (lv_at hl 2 rfl) ?_
  refine lv_icmp_ne (tgt := 79) hx hb d_N_goRound_72 (by decide) (fun hc1 => ?_) (fun hc1 => ?_)
  · have hf := o_f hf hc1
    refine lv_iload_n hx hb d_N_goRound_79 rfl (lv_at hl 0 rfl) ?_
    refine lv_istore_n (lv' := [(2, .int z0), (0, .ref gN), (1, .int x1)]) hx hb d_N_goRound_80 rfl hl (by decide) rfl (fun ls hl => ?_)
    refine lv_goto (tgt := 16) hx hb d_N_goRound_81 (by decide) ?_
    exact hk16 n_kn n_ct n_a n_b n_c n_rd n_ed x1 z0 hf _ _ hP hD hS ls (lv_sub hl [1, 2, 0] rfl)
  · have hf := o_t hf hc1
    refine lv_iconst (v := (-1 : Int32)) hx hb d_N_goRound_75 rfl ?_
    refine lv_goto (tgt := 80) hx hb d_N_goRound_76 (by decide) ?_
    refine lv_istore_n (lv' := [(2, .int (-1 : Int32)), (0, .ref gN), (1, .int x1)]) hx hb d_N_goRound_80 rfl hl (by decide) rfl (fun ls hl => ?_)
    refine lv_goto (tgt := 16) hx hb d_N_goRound_81 (by decide) ?_
    exact hk16 n_kn n_ct n_a n_b n_c n_rd n_ed x1 (-1 : Int32) hf _ _ hP hD hS ls (lv_sub hl [1, 2, 0] rfl)
set_option maxHeartbeats 4000000 in
set_option maxRecDepth 100000 in
theorem t_N_goRound_L16 {p : Program} {l : Launch} {e : Env} {s : State} {m : MethodId} {args : Array Value} {below : List Frame} {meth : Method} {c : Code} {dC : Nat → ClassId} {dI : Nat → Nat → Nat} {cI cZ : ClassId} {gN bTh bXs bYs bA bB bC bEd : Nat} {n_th : Nat → Int32} {n_xs : Nat → Int32} {n_ys : Nat → Int32} {n_kn' : Int32} {n_ct' : Int32} {n_a' : Nat → Int32} {n_b' : Nat → Int32} {n_c' : Nat → Int32} {n_rd' : Int32} {n_ed' : Nat → Int32} {A : Nat → Prop} (C0 : cx p s m args meth c b_N_goRound none 3 R_N) (hK : gK dC dI cI cZ s) (hA : ∀ q, s.heap.size ≤ q → A q) : ∀ (n : Nat) (n_kn : Int32) (n_ct : Int32) (n_a : Nat → Int32) (n_b : Nat → Int32) (n_c : Nat → Int32) (n_rd : Int32) (n_ed : Nat → Int32) (x1 : Int32) (x2 : Int32), f_N_goRound_L16 n_th n_xs n_ys n n_kn n_ct n_a n_b n_c n_rd n_ed x1 x2 = some (n_kn', n_ct', n_a', n_b', n_c', n_rd', n_ed') → ∀ (H : Heap) (locs : List Loc), va_P (dC, dI) vwCl [(gN, .inr (4, [.ref bTh, .ref bXs, .ref bYs, .int n_kn, .int n_ct, .ref bA, .ref bB, .ref bC, .int n_rd, .ref bEd])), (bTh, .inl (cZ, 20, .inl n_th)), (bXs, .inl (cI, 20, .inl n_xs)), (bYs, .inl (cI, 20, .inl n_ys)), (bA, .inl (cI, 40, .inl n_a)), (bB, .inl (cI, 40, .inl n_b)), (bC, .inl (cI, 40, .inl n_c)), (bEd, .inl (cI, 20, .inl n_ed))] H → va_D A [(gN, .inr (4, [.ref bTh, .ref bXs, .ref bYs, .int n_kn, .int n_ct, .ref bA, .ref bB, .ref bC, .int n_rd, .ref bEd])), (bTh, .inl (cZ, 20, .inl n_th)), (bXs, .inl (cI, 20, .inl n_xs)), (bYs, .inl (cI, 20, .inl n_ys)), (bA, .inl (cI, 40, .inl n_a)), (bB, .inl (cI, 40, .inl n_b)), (bC, .inl (cI, 40, .inl n_c)), (bEd, .inl (cI, 20, .inl n_ed))] → va_S A s.heap H locs → ∀ (ls : Array Slot), lv_has ls 3 [(0, .ref gN), (1, .int x1), (2, .int x2)] → W p l e (headSpec w_N_goRound ({ frames := 5, cells := 0, slots := 0, locals := 143 } : Room)).room s m args below meth c H locs 0 0 (MQ below (QwV dC dI A [(gN, .inr (4, [.ref bTh, .ref bXs, .ref bYs, .int n_kn', .int n_ct', .ref bA, .ref bB, .ref bC, .int n_rd', .ref bEd])), (bTh, .inl (cZ, 20, .inl n_th)), (bXs, .inl (cI, 20, .inl n_xs)), (bYs, .inl (cI, 20, .inl n_ys)), (bA, .inl (cI, 40, .inl n_a')), (bB, .inl (cI, 40, .inl n_b')), (bC, .inl (cI, 40, .inl n_c')), (bEd, .inl (cI, 20, .inl n_ed'))]) args s 0 0 A) (F0 m 16 ls []) := by
  obtain ⟨hx, hb, hr, hml, hts, hown, hlocks⟩ := id C0
  intro n
  induction n with
  | zero =>
    intro n_kn n_ct n_a n_b n_c n_rd n_ed x1 x2 hf
    exact (o_n hf).elim
  | succ n ih =>
    intro n_kn n_ct n_a n_b n_c n_rd n_ed x1 x2 hf H locs hP hD hS ls hl
    refine lv_iload_n hx hb d_N_goRound_16 rfl (lv_at hl 2 rfl) ?_
    refine lv_if_lt (tgt := 84) hx hb d_N_goRound_17 (by decide) (fun hc2 => ?_) (fun hc2 => ?_)
    · have hf := o_t hf hc2
      cases hf
      exact wr_v hx hb hr hlocks hP hD hS d_N_goRound_84
    · have hf := o_f hf hc2
      refine lv_aload_n hx hb d_N_goRound_20 rfl (lv_at hl 0 rfl) ?_
      refine va_get (D := (dC, dI)) (ci := 4) (v := .int n_rd) (C := R_N) (T := T_N) (N := 10) hx hb hts in_N hown hK.1 hP 0 rfl rfl 8 (by decide) (hts _ bw_365) (fun _ h9 => h9) rfl d_N_goRound_21 ?_
      refine lv_bipush (v := (20 : Int32)) hx hb d_N_goRound_24 rfl ?_
      refine lv_icmp_ge (tgt := 84) hx hb d_N_goRound_26 (by decide) (fun hc3 => ?_) (fun hc3 => ?_)
      · have hf := o_t hf hc3
        cases hf
        exact wr_v hx hb hr hlocks hP hD hS d_N_goRound_84
      · have hf := o_f hf hc3
        refine lv_aload_n hx hb d_N_goRound_29 rfl (lv_at hl 0 rfl) ?_
        refine va_get (D := (dC, dI)) (ci := 4) (v := .ref bEd) (C := R_N) (T := T_N) (N := 10) hx hb hts in_N hown hK.1 hP 0 rfl rfl 9 (by decide) (hts _ bw_366) (fun _ h9 => h9) rfl d_N_goRound_30 ?_
        refine lv_aload_n hx hb d_N_goRound_33 rfl (lv_at hl 0 rfl) ?_
        refine va_get (D := (dC, dI)) (ci := 4) (v := .int n_rd) (C := R_N) (T := T_N) (N := 10) hx hb hts in_N hown hK.1 hP 0 rfl rfl 8 (by decide) (hts _ bw_365) (fun _ h9 => h9) rfl d_N_goRound_34 ?_
        refine lv_iload_n hx hb d_N_goRound_37 rfl (lv_at hl 2 rfl) ?_
        obtain ⟨hi4, hf⟩ := o_i hf
        refine va_iast (cA := cI) (n := 20) (f := n_ed) hx hb hK.1 hP hD hS 7 0 rfl rfl hi4 d_N_goRound_38 (fun H locs hP hD hS => ?_)
        have hP : va_P (dC, dI) vwCl [(gN, .inr (4, [.ref bTh, .ref bXs, .ref bYs, .int n_kn, .int n_ct, .ref bA, .ref bB, .ref bC, .int n_rd, .ref bEd])), (bTh, .inl (cZ, 20, .inl n_th)), (bXs, .inl (cI, 20, .inl n_xs)), (bYs, .inl (cI, 20, .inl n_ys)), (bA, .inl (cI, 40, .inl n_a)), (bB, .inl (cI, 40, .inl n_b)), (bC, .inl (cI, 40, .inl n_c)), (bEd, .inl (cI, 20, .inl (upd n_ed n_rd.toNatClampNeg x2)))] H := hP
        have hD : va_D A [(gN, .inr (4, [.ref bTh, .ref bXs, .ref bYs, .int n_kn, .int n_ct, .ref bA, .ref bB, .ref bC, .int n_rd, .ref bEd])), (bTh, .inl (cZ, 20, .inl n_th)), (bXs, .inl (cI, 20, .inl n_xs)), (bYs, .inl (cI, 20, .inl n_ys)), (bA, .inl (cI, 40, .inl n_a)), (bB, .inl (cI, 40, .inl n_b)), (bC, .inl (cI, 40, .inl n_c)), (bEd, .inl (cI, 20, .inl (upd n_ed n_rd.toNatClampNeg x2)))] := hD
        refine lv_aload_n hx hb d_N_goRound_39 rfl (lv_at hl 0 rfl) ?_
        refine lv_dup hx hb d_N_goRound_40 rfl ?_
        refine va_get (D := (dC, dI)) (ci := 4) (v := .int n_rd) (C := R_N) (T := T_N) (N := 10) hx hb hts in_N hown hK.1 hP 0 rfl rfl 8 (by decide) (hts _ bw_365) (fun _ h9 => h9) rfl d_N_goRound_41 ?_
        refine lv_iconst (v := (1 : Int32)) hx hb d_N_goRound_44 rfl ?_
        refine lv_iadd hx hb d_N_goRound_45 ?_
        refine va_put (D := (dC, dI)) (ci := 4) (v := .int (n_rd + (1 : Int32))) (ty := .int) (C := R_N) (T := T_N) (N := 10) hx hb hts in_N ty_N tok_N nok_N hown hK.1 hP hD hS 0 rfl rfl 8 (by decide) (hts _ bw_365) (fun _ h9 => h9) rfl (by decide +kernel) rfl rfl (Nat.le_of_ble_eq_true rfl) d_N_goRound_46 (fun H locs hP hD hS => ?_)
        have hP : va_P (dC, dI) vwCl [(gN, .inr (4, [.ref bTh, .ref bXs, .ref bYs, .int n_kn, .int n_ct, .ref bA, .ref bB, .ref bC, .int (n_rd + (1 : Int32)), .ref bEd])), (bTh, .inl (cZ, 20, .inl n_th)), (bXs, .inl (cI, 20, .inl n_xs)), (bYs, .inl (cI, 20, .inl n_ys)), (bA, .inl (cI, 40, .inl n_a)), (bB, .inl (cI, 40, .inl n_b)), (bC, .inl (cI, 40, .inl n_c)), (bEd, .inl (cI, 20, .inl (upd n_ed n_rd.toNatClampNeg x2)))] H := hP
        have hD : va_D A [(gN, .inr (4, [.ref bTh, .ref bXs, .ref bYs, .int n_kn, .int n_ct, .ref bA, .ref bB, .ref bC, .int (n_rd + (1 : Int32)), .ref bEd])), (bTh, .inl (cZ, 20, .inl n_th)), (bXs, .inl (cI, 20, .inl n_xs)), (bYs, .inl (cI, 20, .inl n_ys)), (bA, .inl (cI, 40, .inl n_a)), (bB, .inl (cI, 40, .inl n_b)), (bC, .inl (cI, 40, .inl n_c)), (bEd, .inl (cI, 20, .inl (upd n_ed n_rd.toNatClampNeg x2)))] := hD
        refine lv_aload_n hx hb d_N_goRound_49 rfl (lv_at hl 0 rfl) ?_
        refine va_get (D := (dC, dI)) (ci := 4) (v := .int n_ct) (C := R_N) (T := T_N) (N := 10) hx hb hts in_N hown hK.1 hP 0 rfl rfl 4 (by decide) (hts _ bw_361) (fun _ h9 => h9) rfl d_N_goRound_50 ?_
        refine lv_if_ne (tgt := 64) hx hb d_N_goRound_53 (by decide) (fun hc5 => ?_) (fun hc5 => ?_)
        · have hf := o_f hf hc5
          refine lv_aload_n hx hb d_N_goRound_64 rfl (lv_at hl 0 rfl) ?_
          refine lv_iload_n hx hb d_N_goRound_65 rfl (lv_at hl 2 rfl) ?_
          obtain ⟨r6, hv8, hf⟩ := o_b hf
          refine rc_i (va_runV (As := [.int x2]) (rest := []) ⟨hx, hb, hml, hown, hts⟩ (c_N_onward l dC dI cI cZ gN bTh bXs bYs bA bB bC bEd n_th n_xs n_ys n_kn n_ct (n_rd + (1 : Int32)) x2 r6 hv8) (cwV 1 hts (gd_V bw_517 bw_519 bp_28 bw_5 bw_520) rfl rfl rfl ⟨rfl, hd_N_onward⟩ ⟨Nat.le_of_ble_eq_true rfl, Nat.le_of_ble_eq_true rfl⟩) (pv_r (wc := [(gN, .inr (4, [.ref bTh, .ref bXs, .ref bYs, .int n_kn, .int n_ct, .ref bA, .ref bB, .ref bC, .int (n_rd + (1 : Int32)), .ref bEd])), (bTh, .inl (cZ, 20, .inl n_th)), (bXs, .inl (cI, 20, .inl n_xs)), (bYs, .inl (cI, 20, .inl n_ys))]) hK hP [0, 1, 2, 3] rfl 0 (ci := 4) rfl rfl) rfl rfl hl.1 rfl (lv_room (Nat.le_of_ble_eq_true rfl)) d_N_goRound_66 ⟨Nat.zero_le _, Nat.zero_le _⟩) ?_
          exact t_N_goRound_b69 C0 hK hA (k16 := (fun n_kn n_ct n_a n_b n_c n_rd n_ed x1 x2 => f_N_goRound_L16 n_th n_xs n_ys n n_kn n_ct n_a n_b n_c n_rd n_ed x1 x2)) ih n_kn n_ct n_a n_b n_c (n_rd + (1 : Int32)) (upd n_ed n_rd.toNatClampNeg x2) x1 r6 hf _ _ hP hD hS ls (lv_sub hl [0, 1] rfl)
        · have hf := o_t hf hc5
          refine lv_aload_n hx hb d_N_goRound_56 rfl (lv_at hl 0 rfl) ?_
          refine lv_iload_n hx hb d_N_goRound_57 rfl (lv_at hl 2 rfl) ?_
          obtain ⟨r9, hv11, hf⟩ := o_b hf
          refine rc_i (va_runV (As := [.int x2]) (rest := []) ⟨hx, hb, hml, hown, hts⟩ (c_N_later l dC dI cI cZ gN bTh bXs bYs bA bB bC bEd n_th n_xs n_ys n_kn n_ct (n_rd + (1 : Int32)) x2 r9 hv11) (cwV 1 hts (gd_V bw_513 bw_515 bp_27 bw_5 bw_516) rfl rfl rfl ⟨rfl, hd_N_later⟩ ⟨Nat.le_of_ble_eq_true rfl, Nat.le_of_ble_eq_true rfl⟩) (pv_r (wc := [(gN, .inr (4, [.ref bTh, .ref bXs, .ref bYs, .int n_kn, .int n_ct, .ref bA, .ref bB, .ref bC, .int (n_rd + (1 : Int32)), .ref bEd])), (bTh, .inl (cZ, 20, .inl n_th)), (bXs, .inl (cI, 20, .inl n_xs)), (bYs, .inl (cI, 20, .inl n_ys))]) hK hP [0, 1, 2, 3] rfl 0 (ci := 4) rfl rfl) rfl rfl hl.1 rfl (lv_room (Nat.le_of_ble_eq_true rfl)) d_N_goRound_58 ⟨Nat.zero_le _, Nat.zero_le _⟩) ?_
          refine lv_goto (tgt := 69) hx hb d_N_goRound_61 (by decide) ?_
          exact t_N_goRound_b69 C0 hK hA (k16 := (fun n_kn n_ct n_a n_b n_c n_rd n_ed x1 x2 => f_N_goRound_L16 n_th n_xs n_ys n n_kn n_ct n_a n_b n_c n_rd n_ed x1 x2)) ih n_kn n_ct n_a n_b n_c (n_rd + (1 : Int32)) (upd n_ed n_rd.toNatClampNeg x2) x1 r9 hf _ _ hP hD hS ls (lv_sub hl [0, 1] rfl)
set_option maxHeartbeats 4000000 in
set_option maxRecDepth 100000 in
theorem t_N_goRound_e {p : Program} {l : Launch} {e : Env} {s : State} {m : MethodId} {args : Array Value} {below : List Frame} {meth : Method} {c : Code} {dC : Nat → ClassId} {dI : Nat → Nat → Nat} {cI cZ : ClassId} {gN bTh bXs bYs bA bB bC bEd : Nat} {n_th : Nat → Int32} {n_xs : Nat → Int32} {n_ys : Nat → Int32} {n_kn' : Int32} {n_ct' : Int32} {n_a' : Nat → Int32} {n_b' : Nat → Int32} {n_c' : Nat → Int32} {n_rd' : Int32} {n_ed' : Nat → Int32} {A : Nat → Prop} (C0 : cx p s m args meth c b_N_goRound none 3 R_N) (hK : gK dC dI cI cZ s) (hA : ∀ q, s.heap.size ≤ q → A q) : ∀ (n_kn : Int32) (n_ct : Int32) (n_a : Nat → Int32) (n_b : Nat → Int32) (n_c : Nat → Int32) (n_rd : Int32) (n_ed : Nat → Int32), f_N_goRound n_th n_xs n_ys n_kn n_ct n_a n_b n_c n_rd n_ed = some (n_kn', n_ct', n_a', n_b', n_c', n_rd', n_ed') → ∀ (H : Heap) (locs : List Loc), va_P (dC, dI) vwCl [(gN, .inr (4, [.ref bTh, .ref bXs, .ref bYs, .int n_kn, .int n_ct, .ref bA, .ref bB, .ref bC, .int n_rd, .ref bEd])), (bTh, .inl (cZ, 20, .inl n_th)), (bXs, .inl (cI, 20, .inl n_xs)), (bYs, .inl (cI, 20, .inl n_ys)), (bA, .inl (cI, 40, .inl n_a)), (bB, .inl (cI, 40, .inl n_b)), (bC, .inl (cI, 40, .inl n_c)), (bEd, .inl (cI, 20, .inl n_ed))] H → va_D A [(gN, .inr (4, [.ref bTh, .ref bXs, .ref bYs, .int n_kn, .int n_ct, .ref bA, .ref bB, .ref bC, .int n_rd, .ref bEd])), (bTh, .inl (cZ, 20, .inl n_th)), (bXs, .inl (cI, 20, .inl n_xs)), (bYs, .inl (cI, 20, .inl n_ys)), (bA, .inl (cI, 40, .inl n_a)), (bB, .inl (cI, 40, .inl n_b)), (bC, .inl (cI, 40, .inl n_c)), (bEd, .inl (cI, 20, .inl n_ed))] → va_S A s.heap H locs → ∀ (ls : Array Slot), lv_has ls 3 [(0, .ref gN)] → W p l e (headSpec w_N_goRound ({ frames := 5, cells := 0, slots := 0, locals := 143 } : Room)).room s m args below meth c H locs 0 0 (MQ below (QwV dC dI A [(gN, .inr (4, [.ref bTh, .ref bXs, .ref bYs, .int n_kn', .int n_ct', .ref bA, .ref bB, .ref bC, .int n_rd', .ref bEd])), (bTh, .inl (cZ, 20, .inl n_th)), (bXs, .inl (cI, 20, .inl n_xs)), (bYs, .inl (cI, 20, .inl n_ys)), (bA, .inl (cI, 40, .inl n_a')), (bB, .inl (cI, 40, .inl n_b')), (bC, .inl (cI, 40, .inl n_c')), (bEd, .inl (cI, 20, .inl n_ed'))]) args s 0 0 A) (F0 m 0 ls []) := by
  obtain ⟨hx, hb, hr, hml, hts, hown, hlocks⟩ := id C0
  intro n_kn n_ct n_a n_b n_c n_rd n_ed hf H locs hP hD hS ls hl
  refine lv_aload_n hx hb d_N_goRound_0 rfl (lv_at hl 0 rfl) ?_
  obtain ⟨⟨r12, r13, r14, r15, r16⟩, hv18, hf⟩ := o_b hf
  refine wc_v (wr := [(bEd, .inl (cI, 20, .inl n_ed))]) (w1 := [(gN, .inr (4, [.ref bTh, .ref bXs, .ref bYs, .int r12, .int r13, .ref bA, .ref bB, .ref bC, .int n_rd, .ref bEd])), (bTh, .inl (cZ, 20, .inl n_th)), (bXs, .inl (cI, 20, .inl n_xs)), (bYs, .inl (cI, 20, .inl n_ys)), (bA, .inl (cI, 40, .inl r14)), (bB, .inl (cI, 40, .inl r15)), (bC, .inl (cI, 40, .inl r16))]) (va_runV (As := []) (rest := []) ⟨hx, hb, hml, hown, hts⟩ (c_N_work l dC dI cI cZ gN bTh bXs bYs bA bB bC bEd n_th n_xs n_ys n_kn n_ct n_a n_b n_c n_rd r12 r13 r14 r15 r16 H.size hv18) (cwV 0 hts (gd_V bw_426 bw_428 bp_15 bw_5 bw_429) rfl rfl rfl ⟨rfl, hd_N_work⟩ ⟨Nat.le_of_ble_eq_true rfl, Nat.le_of_ble_eq_true rfl⟩) (pv_w (wc := [(gN, .inr (4, [.ref bTh, .ref bXs, .ref bYs, .int n_kn, .int n_ct, .ref bA, .ref bB, .ref bC, .int n_rd, .ref bEd])), (bTh, .inl (cZ, 20, .inl n_th)), (bXs, .inl (cI, 20, .inl n_xs)), (bYs, .inl (cI, 20, .inl n_ys)), (bA, .inl (cI, 40, .inl n_a)), (bB, .inl (cI, 40, .inl n_b)), (bC, .inl (cI, 40, .inl n_c))]) hK hP hD [0, 1, 2, 3, 4, 5, 6] rfl rfl (by decide) 0 (ci := 4) rfl rfl) rfl rfl hl.1 rfl (lv_room (Nat.le_of_ble_eq_true rfl)) d_N_goRound_1 ⟨Nat.zero_le _, Nat.zero_le _⟩) hP hD hS hA [0, 1, 2, 3, 4, 5, 6] [7] rfl rfl (by decide) (by decide) (fun H locs hP hD hS => ?_)
  have hP : va_P (dC, dI) vwCl [(gN, .inr (4, [.ref bTh, .ref bXs, .ref bYs, .int r12, .int r13, .ref bA, .ref bB, .ref bC, .int n_rd, .ref bEd])), (bTh, .inl (cZ, 20, .inl n_th)), (bXs, .inl (cI, 20, .inl n_xs)), (bYs, .inl (cI, 20, .inl n_ys)), (bA, .inl (cI, 40, .inl r14)), (bB, .inl (cI, 40, .inl r15)), (bC, .inl (cI, 40, .inl r16)), (bEd, .inl (cI, 20, .inl n_ed))] H := hP.sub [1, 2, 3, 4, 5, 6, 7, 0] rfl
  have hD : va_D A [(gN, .inr (4, [.ref bTh, .ref bXs, .ref bYs, .int r12, .int r13, .ref bA, .ref bB, .ref bC, .int n_rd, .ref bEd])), (bTh, .inl (cZ, 20, .inl n_th)), (bXs, .inl (cI, 20, .inl n_xs)), (bYs, .inl (cI, 20, .inl n_ys)), (bA, .inl (cI, 40, .inl r14)), (bB, .inl (cI, 40, .inl r15)), (bC, .inl (cI, 40, .inl r16)), (bEd, .inl (cI, 20, .inl n_ed))] := hD.sub [1, 2, 3, 4, 5, 6, 7, 0] (by decide) rfl
  refine lv_aload_n hx hb d_N_goRound_4 rfl (lv_at hl 0 rfl) ?_
  refine lv_iconst (v := (0 : Int32)) hx hb d_N_goRound_5 rfl ?_
  refine va_put (D := (dC, dI)) (ci := 4) (v := .int (0 : Int32)) (ty := .int) (C := R_N) (T := T_N) (N := 10) hx hb hts in_N ty_N tok_N nok_N hown hK.1 hP hD hS 0 rfl rfl 8 (by decide) (hts _ bw_365) (fun _ h9 => h9) rfl (by decide +kernel) rfl rfl (Nat.le_of_ble_eq_true rfl) d_N_goRound_6 (fun H locs hP hD hS => ?_)
  have hP : va_P (dC, dI) vwCl [(gN, .inr (4, [.ref bTh, .ref bXs, .ref bYs, .int r12, .int r13, .ref bA, .ref bB, .ref bC, .int (0 : Int32), .ref bEd])), (bTh, .inl (cZ, 20, .inl n_th)), (bXs, .inl (cI, 20, .inl n_xs)), (bYs, .inl (cI, 20, .inl n_ys)), (bA, .inl (cI, 40, .inl r14)), (bB, .inl (cI, 40, .inl r15)), (bC, .inl (cI, 40, .inl r16)), (bEd, .inl (cI, 20, .inl n_ed))] H := hP
  have hD : va_D A [(gN, .inr (4, [.ref bTh, .ref bXs, .ref bYs, .int r12, .int r13, .ref bA, .ref bB, .ref bC, .int (0 : Int32), .ref bEd])), (bTh, .inl (cZ, 20, .inl n_th)), (bXs, .inl (cI, 20, .inl n_xs)), (bYs, .inl (cI, 20, .inl n_ys)), (bA, .inl (cI, 40, .inl r14)), (bB, .inl (cI, 40, .inl r15)), (bC, .inl (cI, 40, .inl r16)), (bEd, .inl (cI, 20, .inl n_ed))] := hD
  refine lv_aload_n hx hb d_N_goRound_9 rfl (lv_at hl 0 rfl) ?_
  obtain ⟨r19, hv21, hf⟩ := o_b hf
  refine rc_i (va_runV (As := []) (rest := []) ⟨hx, hb, hml, hown, hts⟩ (c_N_earliest l dC dI cI cZ gN bTh bXs bYs bA bB bC bEd n_th n_xs n_ys r12 r13 (0 : Int32) r19 hv21) (cwV 0 hts (gd_V bw_509 bw_511 bp_26 bw_5 bw_512) rfl rfl rfl ⟨rfl, hd_N_earliest⟩ ⟨Nat.le_of_ble_eq_true rfl, Nat.le_of_ble_eq_true rfl⟩) (pv_r (wc := [(gN, .inr (4, [.ref bTh, .ref bXs, .ref bYs, .int r12, .int r13, .ref bA, .ref bB, .ref bC, .int (0 : Int32), .ref bEd])), (bTh, .inl (cZ, 20, .inl n_th)), (bXs, .inl (cI, 20, .inl n_xs)), (bYs, .inl (cI, 20, .inl n_ys))]) hK hP [0, 1, 2, 3] rfl 0 (ci := 4) rfl rfl) rfl rfl hl.1 rfl (lv_room (Nat.le_of_ble_eq_true rfl)) d_N_goRound_10 ⟨Nat.zero_le _, Nat.zero_le _⟩) ?_
  refine lv_istore_n (lv' := [(1, .int r19), (0, .ref gN)]) hx hb d_N_goRound_13 rfl hl (by decide) rfl (fun ls hl => ?_)
  refine lv_iload_n hx hb d_N_goRound_14 rfl (lv_at hl 0 rfl) ?_
  refine lv_istore_n (lv' := [(2, .int r19), (1, .int r19), (0, .ref gN)]) hx hb d_N_goRound_15 rfl hl (by decide) rfl (fun ls hl => ?_)
  exact t_N_goRound_L16 C0 hK hA  600 r12 r13 r14 r15 r16 (0 : Int32) n_ed r19 r19 hf _ _ hP hD hS ls (lv_sub hl [2, 1, 0] rfl)
set_option maxHeartbeats 4000000 in
set_option maxRecDepth 100000 in
theorem c_N_goRound (l : Launch) (dC : Nat → ClassId) (dI : Nat → Nat → Nat) (cI cZ : ClassId) (gN bTh bXs bYs bA bB bC bEd : Nat) (n_th : Nat → Int32) (n_xs : Nat → Int32) (n_ys : Nat → Int32) (n_kn : Int32) (n_ct : Int32) (n_a : Nat → Int32) (n_b : Nat → Int32) (n_c : Nat → Int32) (n_rd : Int32) (n_ed : Nat → Int32) (n_kn' : Int32) (n_ct' : Int32) (n_a' : Nat → Int32) (n_b' : Nat → Int32) (n_c' : Nat → Int32) (n_rd' : Int32) (n_ed' : Nat → Int32) (sz : Nat) (hf : f_N_goRound n_th n_xs n_ys n_kn n_ct n_a n_b n_c n_rd n_ed = some (n_kn', n_ct', n_a', n_b', n_c', n_rd', n_ed')) : Met l y_N_goRound w_N_goRound ({ frames := 5, cells := 0, slots := 0, locals := 143 } : Room) (PcW dC dI cI cZ [.ref gN] [(gN, .inr (4, [.ref bTh, .ref bXs, .ref bYs, .int n_kn, .int n_ct, .ref bA, .ref bB, .ref bC, .int n_rd, .ref bEd])), (bTh, .inl (cZ, 20, .inl n_th)), (bXs, .inl (cI, 20, .inl n_xs)), (bYs, .inl (cI, 20, .inl n_ys)), (bA, .inl (cI, 40, .inl n_a)), (bB, .inl (cI, 40, .inl n_b)), (bC, .inl (cI, 40, .inl n_c)), (bEd, .inl (cI, 20, .inl n_ed))] sz) (QwV dC dI (va_A [(gN, .inr (4, [.ref bTh, .ref bXs, .ref bYs, .int n_kn, .int n_ct, .ref bA, .ref bB, .ref bC, .int n_rd, .ref bEd])), (bTh, .inl (cZ, 20, .inl n_th)), (bXs, .inl (cI, 20, .inl n_xs)), (bYs, .inl (cI, 20, .inl n_ys)), (bA, .inl (cI, 40, .inl n_a)), (bB, .inl (cI, 40, .inl n_b)), (bC, .inl (cI, 40, .inl n_c)), (bEd, .inl (cI, 20, .inl n_ed))] sz) [(gN, .inr (4, [.ref bTh, .ref bXs, .ref bYs, .int n_kn', .int n_ct', .ref bA, .ref bB, .ref bC, .int n_rd', .ref bEd])), (bTh, .inl (cZ, 20, .inl n_th)), (bXs, .inl (cI, 20, .inl n_xs)), (bYs, .inl (cI, 20, .inl n_ys)), (bA, .inl (cI, 40, .inl n_a')), (bB, .inl (cI, 40, .inl n_b')), (bC, .inl (cI, 40, .inl n_c')), (bEd, .inl (cI, 20, .inl n_ed'))]) 0 0 (va_A [(gN, .inr (4, [.ref bTh, .ref bXs, .ref bYs, .int n_kn, .int n_ct, .ref bA, .ref bB, .ref bC, .int n_rd, .ref bEd])), (bTh, .inl (cZ, 20, .inl n_th)), (bXs, .inl (cI, 20, .inl n_xs)), (bYs, .inl (cI, 20, .inl n_ys)), (bA, .inl (cI, 40, .inl n_a)), (bB, .inl (cI, 40, .inl n_b)), (bC, .inl (cI, 40, .inl n_c)), (bEd, .inl (cI, 20, .inl n_ed))] sz) := by
  refine Met.ofW (cc := b_N_goRound) (maxL := 3) (ret := none) (by decide) rfl ?_
  intro p e s m args below meth c s₁ B hml hv
  obtain ⟨rfl, hsz, hP, hK, hD0⟩ := hv
  have C0 : cx p s m _ meth c b_N_goRound none 3 R_N := ⟨B.exec, B.bytes, B.returns, hml, fun w hw => atoms_spec (ws := w_N_goRound) B.pre w (List.mem_cons_of_mem _ hw), findClass_of_methodNamed B.named, B.notSynchronized⟩
  subst hsz
  have hD := hD0.self (sz := s.heap.size)
  generalize hAe : va_A [(gN, .inr (4, [.ref bTh, .ref bXs, .ref bYs, .int n_kn, .int n_ct, .ref bA, .ref bB, .ref bC, .int n_rd, .ref bEd])), (bTh, .inl (cZ, 20, .inl n_th)), (bXs, .inl (cI, 20, .inl n_xs)), (bYs, .inl (cI, 20, .inl n_ys)), (bA, .inl (cI, 40, .inl n_a)), (bB, .inl (cI, 40, .inl n_b)), (bC, .inl (cI, 40, .inl n_c)), (bEd, .inl (cI, 20, .inl n_ed))] s.heap.size = A at hD ⊢
  have hA : ∀ q : Nat, s.heap.size ≤ q → A q := fun q h => by rw [← hAe]; exact Or.inr h
  have hl := lv_entry ([.ref gN]) (n := 3) (Nat.le_of_ble_eq_true rfl)
  rw [lg_entry_eq]
  generalize (lg_sl ([.ref gN]) ++ List.replicate (3 - (lg_sl ([.ref gN])).length) Slot.unset).toArray = ls at hl ⊢
  have hl : lv_has ls 3 [(0, .ref gN)] := hl
  exact t_N_goRound_e C0 hK hA n_kn n_ct n_a n_b n_c n_rd n_ed hf _ _ hP hD va_S.rf ls hl
set_option maxHeartbeats 4000000 in
set_option maxRecDepth 100000 in
theorem t_N_boundary_e {p : Program} {l : Launch} {e : Env} {s : State} {m : MethodId} {args : Array Value} {below : List Frame} {meth : Method} {c : Code} {dC : Nat → ClassId} {dI : Nat → Nat → Nat} {cI cZ : ClassId} {gN bTh bXs bYs bA bB bC bEd : Nat} {n_th : Nat → Int32} {n_xs : Nat → Int32} {n_ys : Nat → Int32} {rv : Int32} {n_kn' : Int32} {n_ct' : Int32} {n_a' : Nat → Int32} {n_b' : Nat → Int32} {n_c' : Nat → Int32} {n_rd' : Int32} {n_ed' : Nat → Int32} {A : Nat → Prop} (C0 : cx p s m args meth c b_N_boundary (some .int) 2 R_N) (hK : gK dC dI cI cZ s) (hA : ∀ q, s.heap.size ≤ q → A q) : ∀ (n_kn : Int32) (n_ct : Int32) (n_a : Nat → Int32) (n_b : Nat → Int32) (n_c : Nat → Int32) (n_rd : Int32) (n_ed : Nat → Int32) (x1 : Int32), f_N_boundary n_th n_xs n_ys n_kn n_ct n_a n_b n_c n_rd n_ed x1 = some (rv, n_kn', n_ct', n_a', n_b', n_c', n_rd', n_ed') → ∀ (H : Heap) (locs : List Loc), va_P (dC, dI) vwCl [(gN, .inr (4, [.ref bTh, .ref bXs, .ref bYs, .int n_kn, .int n_ct, .ref bA, .ref bB, .ref bC, .int n_rd, .ref bEd])), (bTh, .inl (cZ, 20, .inl n_th)), (bXs, .inl (cI, 20, .inl n_xs)), (bYs, .inl (cI, 20, .inl n_ys)), (bA, .inl (cI, 40, .inl n_a)), (bB, .inl (cI, 40, .inl n_b)), (bC, .inl (cI, 40, .inl n_c)), (bEd, .inl (cI, 20, .inl n_ed))] H → va_D A [(gN, .inr (4, [.ref bTh, .ref bXs, .ref bYs, .int n_kn, .int n_ct, .ref bA, .ref bB, .ref bC, .int n_rd, .ref bEd])), (bTh, .inl (cZ, 20, .inl n_th)), (bXs, .inl (cI, 20, .inl n_xs)), (bYs, .inl (cI, 20, .inl n_ys)), (bA, .inl (cI, 40, .inl n_a)), (bB, .inl (cI, 40, .inl n_b)), (bC, .inl (cI, 40, .inl n_c)), (bEd, .inl (cI, 20, .inl n_ed))] → va_S A s.heap H locs → ∀ (ls : Array Slot), lv_has ls 2 [(0, .ref gN), (1, .int x1)] → W p l e (headSpec w_N_boundary ({ frames := 6, cells := 0, slots := 0, locals := 165 } : Room)).room s m args below meth c H locs 0 0 (MQ below (QwI dC dI A [(gN, .inr (4, [.ref bTh, .ref bXs, .ref bYs, .int n_kn', .int n_ct', .ref bA, .ref bB, .ref bC, .int n_rd', .ref bEd])), (bTh, .inl (cZ, 20, .inl n_th)), (bXs, .inl (cI, 20, .inl n_xs)), (bYs, .inl (cI, 20, .inl n_ys)), (bA, .inl (cI, 40, .inl n_a')), (bB, .inl (cI, 40, .inl n_b')), (bC, .inl (cI, 40, .inl n_c')), (bEd, .inl (cI, 20, .inl n_ed'))] rv) args s 0 0 A) (F0 m 0 ls []) := by
  obtain ⟨hx, hb, hr, hml, hts, hown, hlocks⟩ := id C0
  intro n_kn n_ct n_a n_b n_c n_rd n_ed x1 hf H locs hP hD hS ls hl
  refine lv_aload_n hx hb d_N_boundary_0 rfl (lv_at hl 0 rfl) ?_
  obtain ⟨⟨r1, r2, r3, r4, r5, r6, r7⟩, hv9, hf⟩ := o_b hf
  refine wc_v (wr := []) (w1 := [(gN, .inr (4, [.ref bTh, .ref bXs, .ref bYs, .int r1, .int r2, .ref bA, .ref bB, .ref bC, .int r6, .ref bEd])), (bTh, .inl (cZ, 20, .inl n_th)), (bXs, .inl (cI, 20, .inl n_xs)), (bYs, .inl (cI, 20, .inl n_ys)), (bA, .inl (cI, 40, .inl r3)), (bB, .inl (cI, 40, .inl r4)), (bC, .inl (cI, 40, .inl r5)), (bEd, .inl (cI, 20, .inl r7))]) (va_runV (As := []) (rest := []) ⟨hx, hb, hml, hown, hts⟩ (c_N_goRound l dC dI cI cZ gN bTh bXs bYs bA bB bC bEd n_th n_xs n_ys n_kn n_ct n_a n_b n_c n_rd n_ed r1 r2 r3 r4 r5 r6 r7 H.size hv9) (cwV 0 hts (gd_V bw_505 bw_507 bp_25 bw_5 bw_508) rfl rfl rfl ⟨rfl, hd_N_goRound⟩ ⟨Nat.le_of_ble_eq_true rfl, Nat.le_of_ble_eq_true rfl⟩) (pv_w (wc := [(gN, .inr (4, [.ref bTh, .ref bXs, .ref bYs, .int n_kn, .int n_ct, .ref bA, .ref bB, .ref bC, .int n_rd, .ref bEd])), (bTh, .inl (cZ, 20, .inl n_th)), (bXs, .inl (cI, 20, .inl n_xs)), (bYs, .inl (cI, 20, .inl n_ys)), (bA, .inl (cI, 40, .inl n_a)), (bB, .inl (cI, 40, .inl n_b)), (bC, .inl (cI, 40, .inl n_c)), (bEd, .inl (cI, 20, .inl n_ed))]) hK hP hD [0, 1, 2, 3, 4, 5, 6, 7] rfl rfl (by decide) 0 (ci := 4) rfl rfl) rfl rfl hl.1 rfl (lv_room (Nat.le_of_ble_eq_true rfl)) d_N_boundary_1 ⟨Nat.zero_le _, Nat.zero_le _⟩) hP hD hS hA [0, 1, 2, 3, 4, 5, 6, 7] [] rfl rfl (by decide) (by decide) (fun H locs hP hD hS => ?_)
  have hP : va_P (dC, dI) vwCl [(gN, .inr (4, [.ref bTh, .ref bXs, .ref bYs, .int r1, .int r2, .ref bA, .ref bB, .ref bC, .int r6, .ref bEd])), (bTh, .inl (cZ, 20, .inl n_th)), (bXs, .inl (cI, 20, .inl n_xs)), (bYs, .inl (cI, 20, .inl n_ys)), (bA, .inl (cI, 40, .inl r3)), (bB, .inl (cI, 40, .inl r4)), (bC, .inl (cI, 40, .inl r5)), (bEd, .inl (cI, 20, .inl r7))] H := hP.sub [0, 1, 2, 3, 4, 5, 6, 7] rfl
  have hD : va_D A [(gN, .inr (4, [.ref bTh, .ref bXs, .ref bYs, .int r1, .int r2, .ref bA, .ref bB, .ref bC, .int r6, .ref bEd])), (bTh, .inl (cZ, 20, .inl n_th)), (bXs, .inl (cI, 20, .inl n_xs)), (bYs, .inl (cI, 20, .inl n_ys)), (bA, .inl (cI, 40, .inl r3)), (bB, .inl (cI, 40, .inl r4)), (bC, .inl (cI, 40, .inl r5)), (bEd, .inl (cI, 20, .inl r7))] := hD.sub [0, 1, 2, 3, 4, 5, 6, 7] (by decide) rfl
  refine lv_iload_n hx hb d_N_boundary_4 rfl (lv_at hl 1 rfl) ?_
  refine lv_if_lt (tgt := 16) hx hb d_N_boundary_5 (by decide) (fun hc10 => ?_) (fun hc10 => ?_)
  · have hf := o_t hf hc10
    refine lv_iconst (v := (-1 : Int32)) hx hb d_N_boundary_16 rfl ?_
    refine lv_goto (tgt := 26) hx hb d_N_boundary_17 (by decide) ?_
    cases hf
    exact wr_i hx hb hr hlocks hP hD hS d_N_boundary_26
  · have hf := o_f hf hc10
    refine lv_iload_n hx hb d_N_boundary_8 rfl (lv_at hl 1 rfl) ?_
    refine lv_aload_n hx hb d_N_boundary_9 rfl (lv_at hl 0 rfl) ?_
    refine va_get (D := (dC, dI)) (ci := 4) (v := .int r6) (C := R_N) (T := T_N) (N := 10) hx hb hts in_N hown hK.1 hP 0 rfl rfl 8 (by decide) (hts _ bw_365) (fun _ h9 => h9) rfl d_N_boundary_10 ?_
    refine lv_icmp_lt (tgt := 20) hx hb d_N_boundary_13 (by decide) (fun hc11 => ?_) (fun hc11 => ?_)
    · have hf := o_t hf hc11
      refine lv_aload_n hx hb d_N_boundary_20 rfl (lv_at hl 0 rfl) ?_
      refine va_get (D := (dC, dI)) (ci := 4) (v := .ref bEd) (C := R_N) (T := T_N) (N := 10) hx hb hts in_N hown hK.1 hP 0 rfl rfl 9 (by decide) (hts _ bw_366) (fun _ h9 => h9) rfl d_N_boundary_21 ?_
      refine lv_iload_n hx hb d_N_boundary_24 rfl (lv_at hl 1 rfl) ?_
      obtain ⟨hi12, hf⟩ := o_i hf
      refine va_iald (cA := cI) (n := 20) (f := r7) hx hb hK.1 hP 7 0 rfl rfl hi12 d_N_boundary_25 ?_
      cases hf
      exact wr_i hx hb hr hlocks hP hD hS d_N_boundary_26
    · have hf := o_f hf hc11
      refine lv_iconst (v := (-1 : Int32)) hx hb d_N_boundary_16 rfl ?_
      refine lv_goto (tgt := 26) hx hb d_N_boundary_17 (by decide) ?_
      cases hf
      exact wr_i hx hb hr hlocks hP hD hS d_N_boundary_26
set_option maxHeartbeats 4000000 in
set_option maxRecDepth 100000 in
theorem c_N_boundary (l : Launch) (dC : Nat → ClassId) (dI : Nat → Nat → Nat) (cI cZ : ClassId) (gN bTh bXs bYs bA bB bC bEd : Nat) (n_th : Nat → Int32) (n_xs : Nat → Int32) (n_ys : Nat → Int32) (n_kn : Int32) (n_ct : Int32) (n_a : Nat → Int32) (n_b : Nat → Int32) (n_c : Nat → Int32) (n_rd : Int32) (n_ed : Nat → Int32) (x1 : Int32) (rv : Int32) (n_kn' : Int32) (n_ct' : Int32) (n_a' : Nat → Int32) (n_b' : Nat → Int32) (n_c' : Nat → Int32) (n_rd' : Int32) (n_ed' : Nat → Int32) (sz : Nat) (hf : f_N_boundary n_th n_xs n_ys n_kn n_ct n_a n_b n_c n_rd n_ed x1 = some (rv, n_kn', n_ct', n_a', n_b', n_c', n_rd', n_ed')) : Met l y_N_boundary w_N_boundary ({ frames := 6, cells := 0, slots := 0, locals := 165 } : Room) (PcW dC dI cI cZ [.ref gN, .int x1] [(gN, .inr (4, [.ref bTh, .ref bXs, .ref bYs, .int n_kn, .int n_ct, .ref bA, .ref bB, .ref bC, .int n_rd, .ref bEd])), (bTh, .inl (cZ, 20, .inl n_th)), (bXs, .inl (cI, 20, .inl n_xs)), (bYs, .inl (cI, 20, .inl n_ys)), (bA, .inl (cI, 40, .inl n_a)), (bB, .inl (cI, 40, .inl n_b)), (bC, .inl (cI, 40, .inl n_c)), (bEd, .inl (cI, 20, .inl n_ed))] sz) (QwI dC dI (va_A [(gN, .inr (4, [.ref bTh, .ref bXs, .ref bYs, .int n_kn, .int n_ct, .ref bA, .ref bB, .ref bC, .int n_rd, .ref bEd])), (bTh, .inl (cZ, 20, .inl n_th)), (bXs, .inl (cI, 20, .inl n_xs)), (bYs, .inl (cI, 20, .inl n_ys)), (bA, .inl (cI, 40, .inl n_a)), (bB, .inl (cI, 40, .inl n_b)), (bC, .inl (cI, 40, .inl n_c)), (bEd, .inl (cI, 20, .inl n_ed))] sz) [(gN, .inr (4, [.ref bTh, .ref bXs, .ref bYs, .int n_kn', .int n_ct', .ref bA, .ref bB, .ref bC, .int n_rd', .ref bEd])), (bTh, .inl (cZ, 20, .inl n_th)), (bXs, .inl (cI, 20, .inl n_xs)), (bYs, .inl (cI, 20, .inl n_ys)), (bA, .inl (cI, 40, .inl n_a')), (bB, .inl (cI, 40, .inl n_b')), (bC, .inl (cI, 40, .inl n_c')), (bEd, .inl (cI, 20, .inl n_ed'))] rv) 0 0 (va_A [(gN, .inr (4, [.ref bTh, .ref bXs, .ref bYs, .int n_kn, .int n_ct, .ref bA, .ref bB, .ref bC, .int n_rd, .ref bEd])), (bTh, .inl (cZ, 20, .inl n_th)), (bXs, .inl (cI, 20, .inl n_xs)), (bYs, .inl (cI, 20, .inl n_ys)), (bA, .inl (cI, 40, .inl n_a)), (bB, .inl (cI, 40, .inl n_b)), (bC, .inl (cI, 40, .inl n_c)), (bEd, .inl (cI, 20, .inl n_ed))] sz) := by
  refine Met.ofW (cc := b_N_boundary) (maxL := 2) (ret := (some .int)) (by decide) rfl ?_
  intro p e s m args below meth c s₁ B hml hv
  obtain ⟨rfl, hsz, hP, hK, hD0⟩ := hv
  have C0 : cx p s m _ meth c b_N_boundary (some .int) 2 R_N := ⟨B.exec, B.bytes, B.returns, hml, fun w hw => atoms_spec (ws := w_N_boundary) B.pre w (List.mem_cons_of_mem _ hw), findClass_of_methodNamed B.named, B.notSynchronized⟩
  subst hsz
  have hD := hD0.self (sz := s.heap.size)
  generalize hAe : va_A [(gN, .inr (4, [.ref bTh, .ref bXs, .ref bYs, .int n_kn, .int n_ct, .ref bA, .ref bB, .ref bC, .int n_rd, .ref bEd])), (bTh, .inl (cZ, 20, .inl n_th)), (bXs, .inl (cI, 20, .inl n_xs)), (bYs, .inl (cI, 20, .inl n_ys)), (bA, .inl (cI, 40, .inl n_a)), (bB, .inl (cI, 40, .inl n_b)), (bC, .inl (cI, 40, .inl n_c)), (bEd, .inl (cI, 20, .inl n_ed))] s.heap.size = A at hD ⊢
  have hA : ∀ q : Nat, s.heap.size ≤ q → A q := fun q h => by rw [← hAe]; exact Or.inr h
  have hl := lv_entry ([.ref gN, .int x1]) (n := 2) (Nat.le_of_ble_eq_true rfl)
  rw [lg_entry_eq]
  generalize (lg_sl ([.ref gN, .int x1]) ++ List.replicate (2 - (lg_sl ([.ref gN, .int x1])).length) Slot.unset).toArray = ls at hl ⊢
  have hl : lv_has ls 2 [(0, .ref gN), (1, .int x1)] := hl
  exact t_N_boundary_e C0 hK hA n_kn n_ct n_a n_b n_c n_rd n_ed x1 hf _ _ hP hD va_S.rf ls hl
set_option maxHeartbeats 4000000 in
set_option maxRecDepth 100000 in
theorem c_N_inside (l : Launch) (dC : Nat → ClassId) (dI : Nat → Nat → Nat) (cI cZ : ClassId) (gN bTh bXs bYs bA bB bC bEd : Nat) (n_th : Nat → Int32) (n_xs : Nat → Int32) (n_ys : Nat → Int32) (n_kn : Int32) (n_ct : Int32) (n_rd : Int32) (x1 : Int32) (x2 : Int32) (x3 : Int32) (x4 : Int32) (rv : Int32) (hf : f_N_inside n_th n_xs n_ys x1 x2 x3 x4 = some rv) : Met l y_N_inside w_N_inside ({ frames := 3, cells := 0, slots := 0, locals := 95 } : Room) (PcR dC dI cI cZ [.ref gN, .int x1, .int x2, .int x3, .int x4] [(gN, .inr (4, [.ref bTh, .ref bXs, .ref bYs, .int n_kn, .int n_ct, .ref bA, .ref bB, .ref bC, .int n_rd, .ref bEd])), (bTh, .inl (cZ, 20, .inl n_th)), (bXs, .inl (cI, 20, .inl n_xs)), (bYs, .inl (cI, 20, .inl n_ys))]) (vp_Si (fun r => r = rv)) 0 0 (fun _ => False) := by
  refine Met.ofW (cc := b_N_inside) (maxL := 5) (ret := (some .int)) (by decide) rfl ?_
  intro p e s m args below meth c s₁ B hml hv
  obtain ⟨rfl, hP, hK⟩ := hv
  have C0 : cx p s m _ meth c b_N_inside (some .int) 5 R_N := ⟨B.exec, B.bytes, B.returns, hml, fun w hw => atoms_spec (ws := w_N_inside) B.pre w (List.mem_cons_of_mem _ hw), findClass_of_methodNamed B.named, B.notSynchronized⟩
  obtain ⟨hx, hb, hr, hml, hts, hown, hlocks⟩ := id C0
  have hl := lv_entry ([.ref gN, .int x1, .int x2, .int x3, .int x4]) (n := 5) (Nat.le_of_ble_eq_true rfl)
  rw [lg_entry_eq]
  generalize (lg_sl ([.ref gN, .int x1, .int x2, .int x3, .int x4]) ++ List.replicate (5 - (lg_sl ([.ref gN, .int x1, .int x2, .int x3, .int x4])).length) Slot.unset).toArray = ls at hl ⊢
  have hl : lv_has ls 5 [(0, .ref gN), (1, .int x1), (2, .int x2), (3, .int x3), (4, .int x4)] := hl
  refine lv_aload_n hx hb d_N_inside_0 rfl (lv_at hl 0 rfl) ?_
  refine lv_iload_n hx hb d_N_inside_1 rfl (lv_at hl 1 rfl) ?_
  obtain ⟨r1, hv3, hf⟩ := o_b hf
  refine rc_i (va_runV (As := [.int x1]) (rest := []) ⟨hx, hb, hml, hown, hts⟩ (c_N_is l dC dI cI cZ gN bTh bXs bYs bA bB bC bEd n_th n_kn n_ct n_rd x1 r1 hv3) (cwV 1 hts (gd_V bw_405 bw_407 bp_14 bw_5 bw_408) rfl rfl rfl ⟨rfl, hd_N_is⟩ ⟨Nat.le_of_ble_eq_true rfl, Nat.le_of_ble_eq_true rfl⟩) (pv_r (wc := [(gN, .inr (4, [.ref bTh, .ref bXs, .ref bYs, .int n_kn, .int n_ct, .ref bA, .ref bB, .ref bC, .int n_rd, .ref bEd])), (bTh, .inl (cZ, 20, .inl n_th))]) hK hP [0, 1] rfl 0 (ci := 4) rfl rfl) rfl rfl hl.1 rfl (lv_room (Nat.le_of_ble_eq_true rfl)) d_N_inside_2 ⟨Nat.zero_le _, Nat.zero_le _⟩) ?_
  refine lv_if_eq (tgt := 43) hx hb d_N_inside_5 (by decide) (fun hc4 => ?_) (fun hc4 => ?_)
  · have hf := o_t hf hc4
    refine lv_iconst (v := (2 : Int32)) hx hb d_N_inside_43 rfl ?_
    cases hf
    exact rr_i hx hb hr hlocks d_N_inside_44
  · have hf := o_f hf hc4
    refine lv_aload_n hx hb d_N_inside_8 rfl (lv_at hl 0 rfl) ?_
    refine lv_iload_n hx hb d_N_inside_9 rfl (lv_at hl 2 rfl) ?_
    obtain ⟨r5, hv7, hf⟩ := o_b hf
    refine rc_i (va_runV (As := [.int x2]) (rest := []) ⟨hx, hb, hml, hown, hts⟩ (c_N_is l dC dI cI cZ gN bTh bXs bYs bA bB bC bEd n_th n_kn n_ct n_rd x2 r5 hv7) (cwV 1 hts (gd_V bw_405 bw_407 bp_14 bw_5 bw_408) rfl rfl rfl ⟨rfl, hd_N_is⟩ ⟨Nat.le_of_ble_eq_true rfl, Nat.le_of_ble_eq_true rfl⟩) (pv_r (wc := [(gN, .inr (4, [.ref bTh, .ref bXs, .ref bYs, .int n_kn, .int n_ct, .ref bA, .ref bB, .ref bC, .int n_rd, .ref bEd])), (bTh, .inl (cZ, 20, .inl n_th))]) hK hP [0, 1] rfl 0 (ci := 4) rfl rfl) rfl rfl hl.1 rfl (lv_room (Nat.le_of_ble_eq_true rfl)) d_N_inside_10 ⟨Nat.zero_le _, Nat.zero_le _⟩) ?_
    refine lv_if_eq (tgt := 43) hx hb d_N_inside_13 (by decide) (fun hc8 => ?_) (fun hc8 => ?_)
    · have hf := o_t hf hc8
      refine lv_iconst (v := (2 : Int32)) hx hb d_N_inside_43 rfl ?_
      cases hf
      exact rr_i hx hb hr hlocks d_N_inside_44
    · have hf := o_f hf hc8
      refine lv_aload_n hx hb d_N_inside_16 rfl (lv_at hl 0 rfl) ?_
      refine lv_iload_n hx hb d_N_inside_17 rfl (lv_at hl 3 rfl) ?_
      obtain ⟨r9, hv11, hf⟩ := o_b hf
      refine rc_i (va_runV (As := [.int x3]) (rest := []) ⟨hx, hb, hml, hown, hts⟩ (c_N_is l dC dI cI cZ gN bTh bXs bYs bA bB bC bEd n_th n_kn n_ct n_rd x3 r9 hv11) (cwV 1 hts (gd_V bw_405 bw_407 bp_14 bw_5 bw_408) rfl rfl rfl ⟨rfl, hd_N_is⟩ ⟨Nat.le_of_ble_eq_true rfl, Nat.le_of_ble_eq_true rfl⟩) (pv_r (wc := [(gN, .inr (4, [.ref bTh, .ref bXs, .ref bYs, .int n_kn, .int n_ct, .ref bA, .ref bB, .ref bC, .int n_rd, .ref bEd])), (bTh, .inl (cZ, 20, .inl n_th))]) hK hP [0, 1] rfl 0 (ci := 4) rfl rfl) rfl rfl hl.1 rfl (lv_room (Nat.le_of_ble_eq_true rfl)) d_N_inside_18 ⟨Nat.zero_le _, Nat.zero_le _⟩) ?_
      refine lv_if_eq (tgt := 43) hx hb d_N_inside_21 (by decide) (fun hc12 => ?_) (fun hc12 => ?_)
      · have hf := o_t hf hc12
        refine lv_iconst (v := (2 : Int32)) hx hb d_N_inside_43 rfl ?_
        cases hf
        exact rr_i hx hb hr hlocks d_N_inside_44
      · have hf := o_f hf hc12
        refine lv_aload_n hx hb d_N_inside_24 rfl (lv_at hl 0 rfl) ?_
        refine lv_iload hx hb d_N_inside_25 (lv_at hl 4 rfl) ?_
        obtain ⟨r13, hv15, hf⟩ := o_b hf
        refine rc_i (va_runV (As := [.int x4]) (rest := []) ⟨hx, hb, hml, hown, hts⟩ (c_N_is l dC dI cI cZ gN bTh bXs bYs bA bB bC bEd n_th n_kn n_ct n_rd x4 r13 hv15) (cwV 1 hts (gd_V bw_405 bw_407 bp_14 bw_5 bw_408) rfl rfl rfl ⟨rfl, hd_N_is⟩ ⟨Nat.le_of_ble_eq_true rfl, Nat.le_of_ble_eq_true rfl⟩) (pv_r (wc := [(gN, .inr (4, [.ref bTh, .ref bXs, .ref bYs, .int n_kn, .int n_ct, .ref bA, .ref bB, .ref bC, .int n_rd, .ref bEd])), (bTh, .inl (cZ, 20, .inl n_th))]) hK hP [0, 1] rfl 0 (ci := 4) rfl rfl) rfl rfl hl.1 rfl (lv_room (Nat.le_of_ble_eq_true rfl)) d_N_inside_27 ⟨Nat.zero_le _, Nat.zero_le _⟩) ?_
        refine lv_if_eq (tgt := 43) hx hb d_N_inside_30 (by decide) (fun hc16 => ?_) (fun hc16 => ?_)
        · have hf := o_t hf hc16
          refine lv_iconst (v := (2 : Int32)) hx hb d_N_inside_43 rfl ?_
          cases hf
          exact rr_i hx hb hr hlocks d_N_inside_44
        · have hf := o_f hf hc16
          refine lv_aload_n hx hb d_N_inside_33 rfl (lv_at hl 0 rfl) ?_
          refine lv_iload_n hx hb d_N_inside_34 rfl (lv_at hl 1 rfl) ?_
          refine lv_iload_n hx hb d_N_inside_35 rfl (lv_at hl 2 rfl) ?_
          refine lv_iload_n hx hb d_N_inside_36 rfl (lv_at hl 3 rfl) ?_
          obtain ⟨r17, hv19, hf⟩ := o_b hf
          refine rc_i (va_runV (As := [.int x1, .int x2, .int x3]) (rest := []) ⟨hx, hb, hml, hown, hts⟩ (c_N_side l dC dI cI cZ gN bTh bXs bYs bA bB bC bEd n_xs n_ys n_kn n_ct n_rd x1 x2 x3 r17 hv19) (cwV 3 hts (gd_V bw_434 bw_436 bp_17 bw_5 bw_437) rfl rfl rfl ⟨rfl, hd_N_side⟩ ⟨Nat.le_of_ble_eq_true rfl, Nat.le_of_ble_eq_true rfl⟩) (pv_r (wc := [(gN, .inr (4, [.ref bTh, .ref bXs, .ref bYs, .int n_kn, .int n_ct, .ref bA, .ref bB, .ref bC, .int n_rd, .ref bEd])), (bXs, .inl (cI, 20, .inl n_xs)), (bYs, .inl (cI, 20, .inl n_ys))]) hK hP [0, 2, 3] rfl 0 (ci := 4) rfl rfl) rfl rfl hl.1 rfl (lv_room (Nat.le_of_ble_eq_true rfl)) d_N_inside_37 ⟨Nat.zero_le _, Nat.zero_le _⟩) ?_
          refine lv_if_ne (tgt := 45) hx hb d_N_inside_40 (by decide) (fun hc20 => ?_) (fun hc20 => ?_)
          · have hf := o_f hf hc20
            refine lv_aload_n hx hb d_N_inside_45 rfl (lv_at hl 0 rfl) ?_
            refine lv_iload_n hx hb d_N_inside_46 rfl (lv_at hl 1 rfl) ?_
            refine lv_iload_n hx hb d_N_inside_47 rfl (lv_at hl 2 rfl) ?_
            refine lv_iload_n hx hb d_N_inside_48 rfl (lv_at hl 3 rfl) ?_
            obtain ⟨r21, hv23, hf⟩ := o_b hf
            refine rc_i (va_runV (As := [.int x1, .int x2, .int x3]) (rest := []) ⟨hx, hb, hml, hown, hts⟩ (c_N_side l dC dI cI cZ gN bTh bXs bYs bA bB bC bEd n_xs n_ys n_kn n_ct n_rd x1 x2 x3 r21 hv23) (cwV 3 hts (gd_V bw_434 bw_436 bp_17 bw_5 bw_437) rfl rfl rfl ⟨rfl, hd_N_side⟩ ⟨Nat.le_of_ble_eq_true rfl, Nat.le_of_ble_eq_true rfl⟩) (pv_r (wc := [(gN, .inr (4, [.ref bTh, .ref bXs, .ref bYs, .int n_kn, .int n_ct, .ref bA, .ref bB, .ref bC, .int n_rd, .ref bEd])), (bXs, .inl (cI, 20, .inl n_xs)), (bYs, .inl (cI, 20, .inl n_ys))]) hK hP [0, 2, 3] rfl 0 (ci := 4) rfl rfl) rfl rfl hl.1 rfl (lv_room (Nat.le_of_ble_eq_true rfl)) d_N_inside_49 ⟨Nat.zero_le _, Nat.zero_le _⟩) ?_
            refine lv_if_le (tgt := 67) hx hb d_N_inside_52 (by decide) (fun hc24 => ?_) (fun hc24 => ?_)
            · have hf := o_t hf hc24
              refine lv_aload_n hx hb d_N_inside_67 rfl (lv_at hl 0 rfl) ?_
              refine lv_iload_n hx hb d_N_inside_68 rfl (lv_at hl 1 rfl) ?_
              refine lv_iload_n hx hb d_N_inside_69 rfl (lv_at hl 3 rfl) ?_
              refine lv_iload_n hx hb d_N_inside_70 rfl (lv_at hl 2 rfl) ?_
              refine lv_iload hx hb d_N_inside_71 (lv_at hl 4 rfl) ?_
              obtain ⟨r25, hv27, hf⟩ := o_b hf
              refine rc_i (va_runV (As := [.int x1, .int x3, .int x2, .int x4]) (rest := []) ⟨hx, hb, hml, hown, hts⟩ (c_N_circle l dC dI cI cZ gN bTh bXs bYs bA bB bC bEd n_xs n_ys n_kn n_ct n_rd x1 x3 x2 x4 r25 hv27) (cwV 4 hts (gd_V bw_446 bw_448 bp_20 bw_5 bw_449) rfl rfl rfl ⟨rfl, hd_N_circle⟩ ⟨Nat.le_of_ble_eq_true rfl, Nat.le_of_ble_eq_true rfl⟩) (pv_r (wc := [(gN, .inr (4, [.ref bTh, .ref bXs, .ref bYs, .int n_kn, .int n_ct, .ref bA, .ref bB, .ref bC, .int n_rd, .ref bEd])), (bXs, .inl (cI, 20, .inl n_xs)), (bYs, .inl (cI, 20, .inl n_ys))]) hK hP [0, 2, 3] rfl 0 (ci := 4) rfl rfl) rfl rfl hl.1 rfl (lv_room (Nat.le_of_ble_eq_true rfl)) d_N_inside_73 ⟨Nat.zero_le _, Nat.zero_le _⟩) ?_
              cases hf
              exact rr_i hx hb hr hlocks d_N_inside_76
            · have hf := o_f hf hc24
              refine lv_aload_n hx hb d_N_inside_55 rfl (lv_at hl 0 rfl) ?_
              refine lv_iload_n hx hb d_N_inside_56 rfl (lv_at hl 1 rfl) ?_
              refine lv_iload_n hx hb d_N_inside_57 rfl (lv_at hl 2 rfl) ?_
              refine lv_iload_n hx hb d_N_inside_58 rfl (lv_at hl 3 rfl) ?_
              refine lv_iload hx hb d_N_inside_59 (lv_at hl 4 rfl) ?_
              obtain ⟨r28, hv30, hf⟩ := o_b hf
              refine rc_i (va_runV (As := [.int x1, .int x2, .int x3, .int x4]) (rest := []) ⟨hx, hb, hml, hown, hts⟩ (c_N_circle l dC dI cI cZ gN bTh bXs bYs bA bB bC bEd n_xs n_ys n_kn n_ct n_rd x1 x2 x3 x4 r28 hv30) (cwV 4 hts (gd_V bw_446 bw_448 bp_20 bw_5 bw_449) rfl rfl rfl ⟨rfl, hd_N_circle⟩ ⟨Nat.le_of_ble_eq_true rfl, Nat.le_of_ble_eq_true rfl⟩) (pv_r (wc := [(gN, .inr (4, [.ref bTh, .ref bXs, .ref bYs, .int n_kn, .int n_ct, .ref bA, .ref bB, .ref bC, .int n_rd, .ref bEd])), (bXs, .inl (cI, 20, .inl n_xs)), (bYs, .inl (cI, 20, .inl n_ys))]) hK hP [0, 2, 3] rfl 0 (ci := 4) rfl rfl) rfl rfl hl.1 rfl (lv_room (Nat.le_of_ble_eq_true rfl)) d_N_inside_61 ⟨Nat.zero_le _, Nat.zero_le _⟩) ?_
              refine lv_goto (tgt := 76) hx hb d_N_inside_64 (by decide) ?_
              cases hf
              exact rr_i hx hb hr hlocks d_N_inside_76
          · have hf := o_t hf hc20
            refine lv_iconst (v := (2 : Int32)) hx hb d_N_inside_43 rfl ?_
            cases hf
            exact rr_i hx hb hr hlocks d_N_inside_44
set_option maxHeartbeats 4000000 in
set_option maxRecDepth 100000 in
theorem t_N_area_L8 {p : Program} {l : Launch} {e : Env} {s : State} {m : MethodId} {args : Array Value} {below : List Frame} {meth : Method} {c : Code} {dC : Nat → ClassId} {dI : Nat → Nat → Nat} {cI cZ : ClassId} {gN bTh bXs bYs bA bB bC bEd : Nat} {n_th : Nat → Int32} {n_xs : Nat → Int32} {n_ys : Nat → Int32} {rv : Int64} {n_kn' : Int32} {n_ct' : Int32} {n_a' : Nat → Int32} {n_b' : Nat → Int32} {n_c' : Nat → Int32} {n_rd' : Int32} {n_ed' : Nat → Int32} {A : Nat → Prop} (C0 : cx p s m args meth c b_N_area (some .long) 6 R_N) (hK : gK dC dI cI cZ s) (hA : ∀ q, s.heap.size ≤ q → A q) : ∀ (n : Nat) (n_kn : Int32) (n_ct : Int32) (n_a : Nat → Int32) (n_b : Nat → Int32) (n_c : Nat → Int32) (n_rd : Int32) (n_ed : Nat → Int32) (x1 : Int64) (x3 : Int32), f_N_area_L8 n_th n_xs n_ys n n_kn n_ct n_a n_b n_c n_rd n_ed x1 x3 = some (rv, n_kn', n_ct', n_a', n_b', n_c', n_rd', n_ed') → ∀ (H : Heap) (locs : List Loc), va_P (dC, dI) vwCl [(gN, .inr (4, [.ref bTh, .ref bXs, .ref bYs, .int n_kn, .int n_ct, .ref bA, .ref bB, .ref bC, .int n_rd, .ref bEd])), (bTh, .inl (cZ, 20, .inl n_th)), (bXs, .inl (cI, 20, .inl n_xs)), (bYs, .inl (cI, 20, .inl n_ys)), (bA, .inl (cI, 40, .inl n_a)), (bB, .inl (cI, 40, .inl n_b)), (bC, .inl (cI, 40, .inl n_c)), (bEd, .inl (cI, 20, .inl n_ed))] H → va_D A [(gN, .inr (4, [.ref bTh, .ref bXs, .ref bYs, .int n_kn, .int n_ct, .ref bA, .ref bB, .ref bC, .int n_rd, .ref bEd])), (bTh, .inl (cZ, 20, .inl n_th)), (bXs, .inl (cI, 20, .inl n_xs)), (bYs, .inl (cI, 20, .inl n_ys)), (bA, .inl (cI, 40, .inl n_a)), (bB, .inl (cI, 40, .inl n_b)), (bC, .inl (cI, 40, .inl n_c)), (bEd, .inl (cI, 20, .inl n_ed))] → va_S A s.heap H locs → ∀ (ls : Array Slot), lv_has ls 6 [(0, .ref gN), (1, .long x1), (3, .int x3)] → W p l e (headSpec w_N_area ({ frames := 6, cells := 0, slots := 0, locals := 165 } : Room)).room s m args below meth c H locs 0 0 (MQ below (QwL dC dI A [(gN, .inr (4, [.ref bTh, .ref bXs, .ref bYs, .int n_kn', .int n_ct', .ref bA, .ref bB, .ref bC, .int n_rd', .ref bEd])), (bTh, .inl (cZ, 20, .inl n_th)), (bXs, .inl (cI, 20, .inl n_xs)), (bYs, .inl (cI, 20, .inl n_ys)), (bA, .inl (cI, 40, .inl n_a')), (bB, .inl (cI, 40, .inl n_b')), (bC, .inl (cI, 40, .inl n_c')), (bEd, .inl (cI, 20, .inl n_ed'))] rv) args s 0 0 A) (F0 m 8 ls []) := by
  obtain ⟨hx, hb, hr, hml, hts, hown, hlocks⟩ := id C0
  intro n
  induction n with
  | zero =>
    intro n_kn n_ct n_a n_b n_c n_rd n_ed x1 x3 hf
    exact (o_n hf).elim
  | succ n ih =>
    intro n_kn n_ct n_a n_b n_c n_rd n_ed x1 x3 hf H locs hP hD hS ls hl
    refine lv_iload_n hx hb d_N_area_8 rfl (lv_at hl 2 rfl) ?_
    refine lv_aload_n hx hb d_N_area_9 rfl (lv_at hl 0 rfl) ?_
    refine va_get (D := (dC, dI)) (ci := 4) (v := .int n_rd) (C := R_N) (T := T_N) (N := 10) hx hb hts in_N hown hK.1 hP 0 rfl rfl 8 (by decide) (hts _ bw_365) (fun _ h9 => h9) rfl d_N_area_10 ?_
    refine lv_icmp_ge (tgt := 83) hx hb d_N_area_13 (by decide) (fun hc1 => ?_) (fun hc1 => ?_)
    · have hf := o_t hf hc1
      refine lv_aload_n hx hb d_N_area_83 rfl (lv_at hl 0 rfl) ?_
      refine va_get (D := (dC, dI)) (ci := 4) (v := .int n_ct) (C := R_N) (T := T_N) (N := 10) hx hb hts in_N hown hK.1 hP 0 rfl rfl 4 (by decide) (hts _ bw_361) (fun _ h9 => h9) rfl d_N_area_84 ?_
      refine lv_if_ne (tgt := 94) hx hb d_N_area_87 (by decide) (fun hc2 => ?_) (fun hc2 => ?_)
      · have hf := o_f hf hc2
        refine lv_lload_n hx hb d_N_area_94 rfl (lv_at hl 1 rfl) ?_
        cases hf
        exact wr_l hx hb hr hlocks hP hD hS d_N_area_95
      · have hf := o_t hf hc2
        refine lv_lconst (v := (0 : Int64)) hx hb d_N_area_90 rfl ?_
        refine lv_goto (tgt := 95) hx hb d_N_area_91 (by decide) ?_
        cases hf
        exact wr_l hx hb hr hlocks hP hD hS d_N_area_95
    · have hf := o_f hf hc1
      refine lv_aload_n hx hb d_N_area_16 rfl (lv_at hl 0 rfl) ?_
      refine va_get (D := (dC, dI)) (ci := 4) (v := .ref bEd) (C := R_N) (T := T_N) (N := 10) hx hb hts in_N hown hK.1 hP 0 rfl rfl 9 (by decide) (hts _ bw_366) (fun _ h9 => h9) rfl d_N_area_17 ?_
      refine lv_iload_n hx hb d_N_area_20 rfl (lv_at hl 2 rfl) ?_
      obtain ⟨hi3, hf⟩ := o_i hf
      refine va_iald (cA := cI) (n := 20) (f := n_ed) hx hb hK.1 hP 7 0 rfl rfl hi3 d_N_area_21 ?_
      refine lv_istore (lv' := [(4, .int (n_ed x3.toNatClampNeg)), (0, .ref gN), (1, .long x1), (3, .int x3)]) hx hb d_N_area_22 hl (by decide) rfl (fun ls hl => ?_)
      refine lv_aload_n hx hb d_N_area_24 rfl (lv_at hl 1 rfl) ?_
      refine va_get (D := (dC, dI)) (ci := 4) (v := .ref bEd) (C := R_N) (T := T_N) (N := 10) hx hb hts in_N hown hK.1 hP 0 rfl rfl 9 (by decide) (hts _ bw_366) (fun _ h9 => h9) rfl d_N_area_25 ?_
      refine lv_iload_n hx hb d_N_area_28 rfl (lv_at hl 3 rfl) ?_
      refine lv_iconst (v := (1 : Int32)) hx hb d_N_area_29 rfl ?_
      refine lv_iadd hx hb d_N_area_30 ?_
      refine lv_aload_n hx hb d_N_area_31 rfl (lv_at hl 1 rfl) ?_
      refine va_get (D := (dC, dI)) (ci := 4) (v := .int n_rd) (C := R_N) (T := T_N) (N := 10) hx hb hts in_N hown hK.1 hP 0 rfl rfl 8 (by decide) (hts _ bw_365) (fun _ h9 => h9) rfl d_N_area_32 ?_
      obtain ⟨hz4, hf⟩ := o_z hf
      refine lv_irem hx hb d_N_area_35 hz4 ?_
      obtain ⟨hi5, hf⟩ := o_i hf
      refine va_iald (cA := cI) (n := 20) (f := n_ed) hx hb hK.1 hP 7 0 rfl rfl hi5 d_N_area_36 ?_
      refine lv_istore (lv' := [(5, .int (n_ed ((x3 + (1 : Int32)) - (x3 + (1 : Int32)) / n_rd * n_rd).toNatClampNeg)), (4, .int (n_ed x3.toNatClampNeg)), (0, .ref gN), (1, .long x1), (3, .int x3)]) hx hb d_N_area_37 hl (by decide) rfl (fun ls hl => ?_)
      refine lv_lload_n hx hb d_N_area_39 rfl (lv_at hl 3 rfl) ?_
      refine lv_aload_n hx hb d_N_area_40 rfl (lv_at hl 2 rfl) ?_
      refine va_get (D := (dC, dI)) (ci := 4) (v := .ref bXs) (C := R_N) (T := T_N) (N := 10) hx hb hts in_N hown hK.1 hP 0 rfl rfl 1 (by decide) (hts _ bw_358) (fun _ h9 => h9) rfl d_N_area_41 ?_
      refine lv_iload hx hb d_N_area_44 (lv_at hl 1 rfl) ?_
      obtain ⟨hi6, hf⟩ := o_i hf
      refine va_iald (cA := cI) (n := 20) (f := n_xs) hx hb hK.1 hP 2 0 rfl rfl hi6 d_N_area_46 ?_
      refine lv_i2l hx hb d_N_area_47 rfl ?_
      refine lv_aload_n hx hb d_N_area_48 rfl (lv_at hl 2 rfl) ?_
      refine va_get (D := (dC, dI)) (ci := 4) (v := .ref bYs) (C := R_N) (T := T_N) (N := 10) hx hb hts in_N hown hK.1 hP 0 rfl rfl 2 (by decide) (hts _ bw_359) (fun _ h9 => h9) rfl d_N_area_49 ?_
      refine lv_iload hx hb d_N_area_52 (lv_at hl 0 rfl) ?_
      obtain ⟨hi7, hf⟩ := o_i hf
      refine va_iald (cA := cI) (n := 20) (f := n_ys) hx hb hK.1 hP 3 0 rfl rfl hi7 d_N_area_54 ?_
      refine lv_i2l hx hb d_N_area_55 rfl ?_
      refine lv_lmul hx hb d_N_area_56 ?_
      refine lv_ladd hx hb d_N_area_57 ?_
      refine lv_aload_n hx hb d_N_area_58 rfl (lv_at hl 2 rfl) ?_
      refine va_get (D := (dC, dI)) (ci := 4) (v := .ref bXs) (C := R_N) (T := T_N) (N := 10) hx hb hts in_N hown hK.1 hP 0 rfl rfl 1 (by decide) (hts _ bw_358) (fun _ h9 => h9) rfl d_N_area_59 ?_
      refine lv_iload hx hb d_N_area_62 (lv_at hl 0 rfl) ?_
      obtain ⟨hi8, hf⟩ := o_i hf
      refine va_iald (cA := cI) (n := 20) (f := n_xs) hx hb hK.1 hP 2 0 rfl rfl hi8 d_N_area_64 ?_
      refine lv_i2l hx hb d_N_area_65 rfl ?_
      refine lv_aload_n hx hb d_N_area_66 rfl (lv_at hl 2 rfl) ?_
      refine va_get (D := (dC, dI)) (ci := 4) (v := .ref bYs) (C := R_N) (T := T_N) (N := 10) hx hb hts in_N hown hK.1 hP 0 rfl rfl 2 (by decide) (hts _ bw_359) (fun _ h9 => h9) rfl d_N_area_67 ?_
      refine lv_iload hx hb d_N_area_70 (lv_at hl 1 rfl) ?_
      obtain ⟨hi9, hf⟩ := o_i hf
      refine va_iald (cA := cI) (n := 20) (f := n_ys) hx hb hK.1 hP 3 0 rfl rfl hi9 d_N_area_72 ?_
      refine lv_i2l hx hb d_N_area_73 rfl ?_
      refine lv_lmul hx hb d_N_area_74 ?_
      refine lv_lsub hx hb d_N_area_75 ?_
      refine lv_lstore_n (lv' := [(1, .long ((x1 + ((n_xs (n_ed x3.toNatClampNeg).toNatClampNeg).toInt64 * (n_ys (n_ed ((x3 + (1 : Int32)) - (x3 + (1 : Int32)) / n_rd * n_rd).toNatClampNeg).toNatClampNeg).toInt64)) - ((n_xs (n_ed ((x3 + (1 : Int32)) - (x3 + (1 : Int32)) / n_rd * n_rd).toNatClampNeg).toNatClampNeg).toInt64 * (n_ys (n_ed x3.toNatClampNeg).toNatClampNeg).toInt64))), (5, .int (n_ed ((x3 + (1 : Int32)) - (x3 + (1 : Int32)) / n_rd * n_rd).toNatClampNeg)), (4, .int (n_ed x3.toNatClampNeg)), (0, .ref gN), (3, .int x3)]) hx hb d_N_area_76 rfl hl (by decide) rfl (fun ls hl => ?_)
      refine lv_iinc (v := (x3 + 1)) (lv' := [(3, .int (x3 + 1)), (1, .long ((x1 + ((n_xs (n_ed x3.toNatClampNeg).toNatClampNeg).toInt64 * (n_ys (n_ed ((x3 + (1 : Int32)) - (x3 + (1 : Int32)) / n_rd * n_rd).toNatClampNeg).toNatClampNeg).toInt64)) - ((n_xs (n_ed ((x3 + (1 : Int32)) - (x3 + (1 : Int32)) / n_rd * n_rd).toNatClampNeg).toNatClampNeg).toInt64 * (n_ys (n_ed x3.toNatClampNeg).toNatClampNeg).toInt64))), (5, .int (n_ed ((x3 + (1 : Int32)) - (x3 + (1 : Int32)) / n_rd * n_rd).toNatClampNeg)), (4, .int (n_ed x3.toNatClampNeg)), (0, .ref gN)]) hx hb d_N_area_77 hl (k := 4) rfl rfl (by decide) rfl (fun ls hl => ?_)
      refine lv_goto (tgt := 8) hx hb d_N_area_80 (by decide) ?_
      exact ih n_kn n_ct n_a n_b n_c n_rd n_ed ((x1 + ((n_xs (n_ed x3.toNatClampNeg).toNatClampNeg).toInt64 * (n_ys (n_ed ((x3 + (1 : Int32)) - (x3 + (1 : Int32)) / n_rd * n_rd).toNatClampNeg).toNatClampNeg).toInt64)) - ((n_xs (n_ed ((x3 + (1 : Int32)) - (x3 + (1 : Int32)) / n_rd * n_rd).toNatClampNeg).toNatClampNeg).toInt64 * (n_ys (n_ed x3.toNatClampNeg).toNatClampNeg).toInt64)) (x3 + 1) hf _ _ hP hD hS ls (lv_sub hl [4, 1, 0] rfl)
set_option maxHeartbeats 4000000 in
set_option maxRecDepth 100000 in
theorem t_N_area_e {p : Program} {l : Launch} {e : Env} {s : State} {m : MethodId} {args : Array Value} {below : List Frame} {meth : Method} {c : Code} {dC : Nat → ClassId} {dI : Nat → Nat → Nat} {cI cZ : ClassId} {gN bTh bXs bYs bA bB bC bEd : Nat} {n_th : Nat → Int32} {n_xs : Nat → Int32} {n_ys : Nat → Int32} {rv : Int64} {n_kn' : Int32} {n_ct' : Int32} {n_a' : Nat → Int32} {n_b' : Nat → Int32} {n_c' : Nat → Int32} {n_rd' : Int32} {n_ed' : Nat → Int32} {A : Nat → Prop} (C0 : cx p s m args meth c b_N_area (some .long) 6 R_N) (hK : gK dC dI cI cZ s) (hA : ∀ q, s.heap.size ≤ q → A q) : ∀ (n_kn : Int32) (n_ct : Int32) (n_a : Nat → Int32) (n_b : Nat → Int32) (n_c : Nat → Int32) (n_rd : Int32) (n_ed : Nat → Int32), f_N_area n_th n_xs n_ys n_kn n_ct n_a n_b n_c n_rd n_ed = some (rv, n_kn', n_ct', n_a', n_b', n_c', n_rd', n_ed') → ∀ (H : Heap) (locs : List Loc), va_P (dC, dI) vwCl [(gN, .inr (4, [.ref bTh, .ref bXs, .ref bYs, .int n_kn, .int n_ct, .ref bA, .ref bB, .ref bC, .int n_rd, .ref bEd])), (bTh, .inl (cZ, 20, .inl n_th)), (bXs, .inl (cI, 20, .inl n_xs)), (bYs, .inl (cI, 20, .inl n_ys)), (bA, .inl (cI, 40, .inl n_a)), (bB, .inl (cI, 40, .inl n_b)), (bC, .inl (cI, 40, .inl n_c)), (bEd, .inl (cI, 20, .inl n_ed))] H → va_D A [(gN, .inr (4, [.ref bTh, .ref bXs, .ref bYs, .int n_kn, .int n_ct, .ref bA, .ref bB, .ref bC, .int n_rd, .ref bEd])), (bTh, .inl (cZ, 20, .inl n_th)), (bXs, .inl (cI, 20, .inl n_xs)), (bYs, .inl (cI, 20, .inl n_ys)), (bA, .inl (cI, 40, .inl n_a)), (bB, .inl (cI, 40, .inl n_b)), (bC, .inl (cI, 40, .inl n_c)), (bEd, .inl (cI, 20, .inl n_ed))] → va_S A s.heap H locs → ∀ (ls : Array Slot), lv_has ls 6 [(0, .ref gN)] → W p l e (headSpec w_N_area ({ frames := 6, cells := 0, slots := 0, locals := 165 } : Room)).room s m args below meth c H locs 0 0 (MQ below (QwL dC dI A [(gN, .inr (4, [.ref bTh, .ref bXs, .ref bYs, .int n_kn', .int n_ct', .ref bA, .ref bB, .ref bC, .int n_rd', .ref bEd])), (bTh, .inl (cZ, 20, .inl n_th)), (bXs, .inl (cI, 20, .inl n_xs)), (bYs, .inl (cI, 20, .inl n_ys)), (bA, .inl (cI, 40, .inl n_a')), (bB, .inl (cI, 40, .inl n_b')), (bC, .inl (cI, 40, .inl n_c')), (bEd, .inl (cI, 20, .inl n_ed'))] rv) args s 0 0 A) (F0 m 0 ls []) := by
  obtain ⟨hx, hb, hr, hml, hts, hown, hlocks⟩ := id C0
  intro n_kn n_ct n_a n_b n_c n_rd n_ed hf H locs hP hD hS ls hl
  refine lv_aload_n hx hb d_N_area_0 rfl (lv_at hl 0 rfl) ?_
  obtain ⟨⟨r10, r11, r12, r13, r14, r15, r16⟩, hv18, hf⟩ := o_b hf
  refine wc_v (wr := []) (w1 := [(gN, .inr (4, [.ref bTh, .ref bXs, .ref bYs, .int r10, .int r11, .ref bA, .ref bB, .ref bC, .int r15, .ref bEd])), (bTh, .inl (cZ, 20, .inl n_th)), (bXs, .inl (cI, 20, .inl n_xs)), (bYs, .inl (cI, 20, .inl n_ys)), (bA, .inl (cI, 40, .inl r12)), (bB, .inl (cI, 40, .inl r13)), (bC, .inl (cI, 40, .inl r14)), (bEd, .inl (cI, 20, .inl r16))]) (va_runV (As := []) (rest := []) ⟨hx, hb, hml, hown, hts⟩ (c_N_goRound l dC dI cI cZ gN bTh bXs bYs bA bB bC bEd n_th n_xs n_ys n_kn n_ct n_a n_b n_c n_rd n_ed r10 r11 r12 r13 r14 r15 r16 H.size hv18) (cwV 0 hts (gd_V bw_505 bw_507 bp_25 bw_5 bw_508) rfl rfl rfl ⟨rfl, hd_N_goRound⟩ ⟨Nat.le_of_ble_eq_true rfl, Nat.le_of_ble_eq_true rfl⟩) (pv_w (wc := [(gN, .inr (4, [.ref bTh, .ref bXs, .ref bYs, .int n_kn, .int n_ct, .ref bA, .ref bB, .ref bC, .int n_rd, .ref bEd])), (bTh, .inl (cZ, 20, .inl n_th)), (bXs, .inl (cI, 20, .inl n_xs)), (bYs, .inl (cI, 20, .inl n_ys)), (bA, .inl (cI, 40, .inl n_a)), (bB, .inl (cI, 40, .inl n_b)), (bC, .inl (cI, 40, .inl n_c)), (bEd, .inl (cI, 20, .inl n_ed))]) hK hP hD [0, 1, 2, 3, 4, 5, 6, 7] rfl rfl (by decide) 0 (ci := 4) rfl rfl) rfl rfl hl.1 rfl (lv_room (Nat.le_of_ble_eq_true rfl)) d_N_area_1 ⟨Nat.zero_le _, Nat.zero_le _⟩) hP hD hS hA [0, 1, 2, 3, 4, 5, 6, 7] [] rfl rfl (by decide) (by decide) (fun H locs hP hD hS => ?_)
  have hP : va_P (dC, dI) vwCl [(gN, .inr (4, [.ref bTh, .ref bXs, .ref bYs, .int r10, .int r11, .ref bA, .ref bB, .ref bC, .int r15, .ref bEd])), (bTh, .inl (cZ, 20, .inl n_th)), (bXs, .inl (cI, 20, .inl n_xs)), (bYs, .inl (cI, 20, .inl n_ys)), (bA, .inl (cI, 40, .inl r12)), (bB, .inl (cI, 40, .inl r13)), (bC, .inl (cI, 40, .inl r14)), (bEd, .inl (cI, 20, .inl r16))] H := hP.sub [0, 1, 2, 3, 4, 5, 6, 7] rfl
  have hD : va_D A [(gN, .inr (4, [.ref bTh, .ref bXs, .ref bYs, .int r10, .int r11, .ref bA, .ref bB, .ref bC, .int r15, .ref bEd])), (bTh, .inl (cZ, 20, .inl n_th)), (bXs, .inl (cI, 20, .inl n_xs)), (bYs, .inl (cI, 20, .inl n_ys)), (bA, .inl (cI, 40, .inl r12)), (bB, .inl (cI, 40, .inl r13)), (bC, .inl (cI, 40, .inl r14)), (bEd, .inl (cI, 20, .inl r16))] := hD.sub [0, 1, 2, 3, 4, 5, 6, 7] (by decide) rfl
  refine lv_lconst (v := (0 : Int64)) hx hb d_N_area_4 rfl ?_
  refine lv_lstore_n (lv' := [(1, .long (0 : Int64)), (0, .ref gN)]) hx hb d_N_area_5 rfl hl (by decide) rfl (fun ls hl => ?_)
  refine lv_iconst (v := (0 : Int32)) hx hb d_N_area_6 rfl ?_
  refine lv_istore_n (lv' := [(3, .int (0 : Int32)), (1, .long (0 : Int64)), (0, .ref gN)]) hx hb d_N_area_7 rfl hl (by decide) rfl (fun ls hl => ?_)
  exact t_N_area_L8 C0 hK hA  600 r10 r11 r12 r13 r14 r15 r16 (0 : Int64) (0 : Int32) hf _ _ hP hD hS ls (lv_sub hl [2, 1, 0] rfl)
set_option maxHeartbeats 4000000 in
set_option maxRecDepth 100000 in
theorem c_N_area (l : Launch) (dC : Nat → ClassId) (dI : Nat → Nat → Nat) (cI cZ : ClassId) (gN bTh bXs bYs bA bB bC bEd : Nat) (n_th : Nat → Int32) (n_xs : Nat → Int32) (n_ys : Nat → Int32) (n_kn : Int32) (n_ct : Int32) (n_a : Nat → Int32) (n_b : Nat → Int32) (n_c : Nat → Int32) (n_rd : Int32) (n_ed : Nat → Int32) (rv : Int64) (n_kn' : Int32) (n_ct' : Int32) (n_a' : Nat → Int32) (n_b' : Nat → Int32) (n_c' : Nat → Int32) (n_rd' : Int32) (n_ed' : Nat → Int32) (sz : Nat) (hf : f_N_area n_th n_xs n_ys n_kn n_ct n_a n_b n_c n_rd n_ed = some (rv, n_kn', n_ct', n_a', n_b', n_c', n_rd', n_ed')) : Met l y_N_area w_N_area ({ frames := 6, cells := 0, slots := 0, locals := 165 } : Room) (PcW dC dI cI cZ [.ref gN] [(gN, .inr (4, [.ref bTh, .ref bXs, .ref bYs, .int n_kn, .int n_ct, .ref bA, .ref bB, .ref bC, .int n_rd, .ref bEd])), (bTh, .inl (cZ, 20, .inl n_th)), (bXs, .inl (cI, 20, .inl n_xs)), (bYs, .inl (cI, 20, .inl n_ys)), (bA, .inl (cI, 40, .inl n_a)), (bB, .inl (cI, 40, .inl n_b)), (bC, .inl (cI, 40, .inl n_c)), (bEd, .inl (cI, 20, .inl n_ed))] sz) (QwL dC dI (va_A [(gN, .inr (4, [.ref bTh, .ref bXs, .ref bYs, .int n_kn, .int n_ct, .ref bA, .ref bB, .ref bC, .int n_rd, .ref bEd])), (bTh, .inl (cZ, 20, .inl n_th)), (bXs, .inl (cI, 20, .inl n_xs)), (bYs, .inl (cI, 20, .inl n_ys)), (bA, .inl (cI, 40, .inl n_a)), (bB, .inl (cI, 40, .inl n_b)), (bC, .inl (cI, 40, .inl n_c)), (bEd, .inl (cI, 20, .inl n_ed))] sz) [(gN, .inr (4, [.ref bTh, .ref bXs, .ref bYs, .int n_kn', .int n_ct', .ref bA, .ref bB, .ref bC, .int n_rd', .ref bEd])), (bTh, .inl (cZ, 20, .inl n_th)), (bXs, .inl (cI, 20, .inl n_xs)), (bYs, .inl (cI, 20, .inl n_ys)), (bA, .inl (cI, 40, .inl n_a')), (bB, .inl (cI, 40, .inl n_b')), (bC, .inl (cI, 40, .inl n_c')), (bEd, .inl (cI, 20, .inl n_ed'))] rv) 0 0 (va_A [(gN, .inr (4, [.ref bTh, .ref bXs, .ref bYs, .int n_kn, .int n_ct, .ref bA, .ref bB, .ref bC, .int n_rd, .ref bEd])), (bTh, .inl (cZ, 20, .inl n_th)), (bXs, .inl (cI, 20, .inl n_xs)), (bYs, .inl (cI, 20, .inl n_ys)), (bA, .inl (cI, 40, .inl n_a)), (bB, .inl (cI, 40, .inl n_b)), (bC, .inl (cI, 40, .inl n_c)), (bEd, .inl (cI, 20, .inl n_ed))] sz) := by
  refine Met.ofW (cc := b_N_area) (maxL := 6) (ret := (some .long)) (by decide) rfl ?_
  intro p e s m args below meth c s₁ B hml hv
  obtain ⟨rfl, hsz, hP, hK, hD0⟩ := hv
  have C0 : cx p s m _ meth c b_N_area (some .long) 6 R_N := ⟨B.exec, B.bytes, B.returns, hml, fun w hw => atoms_spec (ws := w_N_area) B.pre w (List.mem_cons_of_mem _ hw), findClass_of_methodNamed B.named, B.notSynchronized⟩
  subst hsz
  have hD := hD0.self (sz := s.heap.size)
  generalize hAe : va_A [(gN, .inr (4, [.ref bTh, .ref bXs, .ref bYs, .int n_kn, .int n_ct, .ref bA, .ref bB, .ref bC, .int n_rd, .ref bEd])), (bTh, .inl (cZ, 20, .inl n_th)), (bXs, .inl (cI, 20, .inl n_xs)), (bYs, .inl (cI, 20, .inl n_ys)), (bA, .inl (cI, 40, .inl n_a)), (bB, .inl (cI, 40, .inl n_b)), (bC, .inl (cI, 40, .inl n_c)), (bEd, .inl (cI, 20, .inl n_ed))] s.heap.size = A at hD ⊢
  have hA : ∀ q : Nat, s.heap.size ≤ q → A q := fun q h => by rw [← hAe]; exact Or.inr h
  have hl := lv_entry ([.ref gN]) (n := 6) (Nat.le_of_ble_eq_true rfl)
  rw [lg_entry_eq]
  generalize (lg_sl ([.ref gN]) ++ List.replicate (6 - (lg_sl ([.ref gN])).length) Slot.unset).toArray = ls at hl ⊢
  have hl : lv_has ls 6 [(0, .ref gN)] := hl
  exact t_N_area_e C0 hK hA n_kn n_ct n_a n_b n_c n_rd n_ed hf _ _ hP hD va_S.rf ls hl
