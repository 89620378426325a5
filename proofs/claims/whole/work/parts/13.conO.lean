set_option maxHeartbeats 4000000 in
set_option maxRecDepth 100000 in
theorem t_O_allOnOneLine_L2 {p : Program} {l : Launch} {e : Env} {s : State} {m : MethodId} {args : Array Value} {below : List Frame} {meth : Method} {c : Code} {dC : Nat → ClassId} {dI : Nat → Nat → Nat} {cI cZ : ClassId} {gP aXs aYs aTk aOr : Nat} {s_xs : Nat → Int32} {s_ys : Nat → Int32} {s_or : Nat → Int32} {s_pn : Int32} {rv : Int32} (C0 : cx p s m args meth c b_O_allOnOneLine (some .boolean) 2 R_O) (hK : gK dC dI cI cZ s) (hP : va_P (dC, dI) vwCl [(gP, .inr (1, [.ref aXs, .ref aYs, .ref aTk, .ref aOr, .int s_pn])), (aXs, .inl (cI, 20, .inl s_xs)), (aYs, .inl (cI, 20, .inl s_ys)), (aOr, .inl (cI, 20, .inl s_or))] s.heap) : ∀ (n : Nat) (x1 : Int32), f_O_allOnOneLine_L2 s_xs s_ys s_or s_pn n x1 = some rv → ∀ (ls : Array Slot), lv_has ls 2 [(0, .ref gP), (1, .int x1)] → W p l e (headSpec w_O_allOnOneLine ({ frames := 2, cells := 0, slots := 0, locals := 55 } : Room)).room s m args below meth c s.heap [] 0 0 (MQ below (vp_Si (fun r => r = rv)) args s 0 0 (fun _ => False)) (F0 m 2 ls []) := by
  obtain ⟨hx, hb, hr, hml, hts, hown, hlocks⟩ := id C0
  intro n
  induction n with
  | zero =>
    intro x1 hf
    exact (o_n hf).elim
  | succ n ih =>
    intro x1 hf ls hl
    refine lv_iload_n hx hb d_O_allOnOneLine_2 rfl (lv_at hl 1 rfl) ?_
    refine lv_aload_n hx hb d_O_allOnOneLine_3 rfl (lv_at hl 0 rfl) ?_
    obtain ⟨r1, hv3, hf⟩ := o_b hf
    refine rc_i (va_runV (As := []) (rest := [.int x1]) ⟨hx, hb, hml, hown, hts⟩ (c_P_size l dC dI cI cZ gP aXs aYs aTk aOr s_pn r1 hv3) (cwV 0 hts (gd_V bw_176 bw_145 bw_146 bw_2 bw_147) rfl rfl rfl ⟨rfl, hd_P_size⟩ ⟨Nat.le_of_ble_eq_true rfl, Nat.le_of_ble_eq_true rfl⟩) (pv_r (wc := [(gP, .inr (1, [.ref aXs, .ref aYs, .ref aTk, .ref aOr, .int s_pn]))]) hK hP [0] rfl 0 (ci := 1) rfl rfl) rfl rfl hl.1 rfl (lv_room (Nat.le_of_ble_eq_true rfl)) d_O_allOnOneLine_4 ⟨Nat.zero_le _, Nat.zero_le _⟩) ?_
    refine lv_icmp_ge (tgt := 40) hx hb d_O_allOnOneLine_7 (by decide) (fun hc4 => ?_) (fun hc4 => ?_)
    · have hf := o_t hf hc4
      refine lv_iconst (v := (1 : Int32)) hx hb d_O_allOnOneLine_40 rfl ?_
      cases hf
      exact rr_z hx hb hr hlocks rfl d_O_allOnOneLine_41
    · have hf := o_f hf hc4
      refine lv_aload_n hx hb d_O_allOnOneLine_10 rfl (lv_at hl 0 rfl) ?_
      refine lv_aload_n hx hb d_O_allOnOneLine_11 rfl (lv_at hl 0 rfl) ?_
      refine lv_iconst (v := (0 : Int32)) hx hb d_O_allOnOneLine_12 rfl ?_
      obtain ⟨r5, hv7, hf⟩ := o_b hf
      refine rc_i (va_runV (As := [.int (0 : Int32)]) (rest := [.ref gP]) ⟨hx, hb, hml, hown, hts⟩ (c_P_inOrder l dC dI cI cZ gP aXs aYs aTk aOr s_or s_pn (0 : Int32) r5 hv7) (cwV 1 hts (gd_V bw_177 bw_178 bw_179 bw_2 bw_180) rfl rfl rfl ⟨rfl, hd_P_inOrder⟩ ⟨Nat.le_of_ble_eq_true rfl, Nat.le_of_ble_eq_true rfl⟩) (pv_r (wc := [(gP, .inr (1, [.ref aXs, .ref aYs, .ref aTk, .ref aOr, .int s_pn])), (aOr, .inl (cI, 20, .inl s_or))]) hK hP [0, 3] rfl 0 (ci := 1) rfl rfl) rfl rfl hl.1 rfl (lv_room (Nat.le_of_ble_eq_true rfl)) d_O_allOnOneLine_13 ⟨Nat.zero_le _, Nat.zero_le _⟩) ?_
      refine lv_aload_n hx hb d_O_allOnOneLine_16 rfl (lv_at hl 0 rfl) ?_
      refine lv_iconst (v := (1 : Int32)) hx hb d_O_allOnOneLine_17 rfl ?_
      obtain ⟨r8, hv10, hf⟩ := o_b hf
      refine rc_i (va_runV (As := [.int (1 : Int32)]) (rest := [.int r5, .ref gP]) ⟨hx, hb, hml, hown, hts⟩ (c_P_inOrder l dC dI cI cZ gP aXs aYs aTk aOr s_or s_pn (1 : Int32) r8 hv10) (cwV 1 hts (gd_V bw_177 bw_178 bw_179 bw_2 bw_180) rfl rfl rfl ⟨rfl, hd_P_inOrder⟩ ⟨Nat.le_of_ble_eq_true rfl, Nat.le_of_ble_eq_true rfl⟩) (pv_r (wc := [(gP, .inr (1, [.ref aXs, .ref aYs, .ref aTk, .ref aOr, .int s_pn])), (aOr, .inl (cI, 20, .inl s_or))]) hK hP [0, 3] rfl 0 (ci := 1) rfl rfl) rfl rfl hl.1 rfl (lv_room (Nat.le_of_ble_eq_true rfl)) d_O_allOnOneLine_18 ⟨Nat.zero_le _, Nat.zero_le _⟩) ?_
      refine lv_aload_n hx hb d_O_allOnOneLine_21 rfl (lv_at hl 0 rfl) ?_
      refine lv_iload_n hx hb d_O_allOnOneLine_22 rfl (lv_at hl 1 rfl) ?_
      obtain ⟨r11, hv13, hf⟩ := o_b hf
      refine rc_i (va_runV (As := [.int x1]) (rest := [.int r8, .int r5, .ref gP]) ⟨hx, hb, hml, hown, hts⟩ (c_P_inOrder l dC dI cI cZ gP aXs aYs aTk aOr s_or s_pn x1 r11 hv13) (cwV 1 hts (gd_V bw_177 bw_178 bw_179 bw_2 bw_180) rfl rfl rfl ⟨rfl, hd_P_inOrder⟩ ⟨Nat.le_of_ble_eq_true rfl, Nat.le_of_ble_eq_true rfl⟩) (pv_r (wc := [(gP, .inr (1, [.ref aXs, .ref aYs, .ref aTk, .ref aOr, .int s_pn])), (aOr, .inl (cI, 20, .inl s_or))]) hK hP [0, 3] rfl 0 (ci := 1) rfl rfl) rfl rfl hl.1 rfl (lv_room (Nat.le_of_ble_eq_true rfl)) d_O_allOnOneLine_23 ⟨Nat.zero_le _, Nat.zero_le _⟩) ?_
      obtain ⟨r14, hv16, hf⟩ := o_b hf
      refine rc_i (va_runV (As := [.int r5, .int r8, .int r11]) (rest := []) ⟨hx, hb, hml, hown, hts⟩ (c_P_side l dC dI cI cZ gP aXs aYs aTk aOr s_xs s_ys s_pn r5 r8 r11 r14 hv16) (cwV 3 hts (gd_V bw_181 bw_182 bw_183 bw_2 bw_184) rfl rfl rfl ⟨rfl, hd_P_side⟩ ⟨Nat.le_of_ble_eq_true rfl, Nat.le_of_ble_eq_true rfl⟩) (pv_r (wc := [(gP, .inr (1, [.ref aXs, .ref aYs, .ref aTk, .ref aOr, .int s_pn])), (aXs, .inl (cI, 20, .inl s_xs)), (aYs, .inl (cI, 20, .inl s_ys))]) hK hP [0, 1, 2] rfl 0 (ci := 1) rfl rfl) rfl rfl hl.1 rfl (lv_room (Nat.le_of_ble_eq_true rfl)) d_O_allOnOneLine_26 ⟨Nat.zero_le _, Nat.zero_le _⟩) ?_
      refine lv_if_eq (tgt := 34) hx hb d_O_allOnOneLine_29 (by decide) (fun hc17 => ?_) (fun hc17 => ?_)
      · have hf := o_t hf hc17
        refine lv_iinc (v := (x1 + 1)) (lv' := [(1, .int (x1 + 1)), (0, .ref gP)]) hx hb d_O_allOnOneLine_34 hl (k := 1) rfl rfl (by decide) rfl (fun ls hl => ?_)
        refine lv_goto (tgt := 2) hx hb d_O_allOnOneLine_37 (by decide) ?_
        exact ih (x1 + 1) hf ls (lv_sub hl [1, 0] rfl)
      · have hf := o_f hf hc17
        refine lv_iconst (v := (0 : Int32)) hx hb d_O_allOnOneLine_32 rfl ?_
        cases hf
        exact rr_z hx hb hr hlocks rfl d_O_allOnOneLine_33
set_option maxHeartbeats 4000000 in
set_option maxRecDepth 100000 in
theorem c_O_allOnOneLine (l : Launch) (dC : Nat → ClassId) (dI : Nat → Nat → Nat) (cI cZ : ClassId) (gP aXs aYs aTk aOr : Nat) (s_xs : Nat → Int32) (s_ys : Nat → Int32) (s_or : Nat → Int32) (s_pn : Int32) (rv : Int32) (hf : f_O_allOnOneLine s_xs s_ys s_or s_pn = some rv) : Met l y_O_allOnOneLine w_O_allOnOneLine ({ frames := 2, cells := 0, slots := 0, locals := 55 } : Room) (PcR dC dI cI cZ [.ref gP] [(gP, .inr (1, [.ref aXs, .ref aYs, .ref aTk, .ref aOr, .int s_pn])), (aXs, .inl (cI, 20, .inl s_xs)), (aYs, .inl (cI, 20, .inl s_ys)), (aOr, .inl (cI, 20, .inl s_or))]) (vp_Si (fun r => r = rv)) 0 0 (fun _ => False) := by
  refine Met.ofW (cc := b_O_allOnOneLine) (maxL := 2) (ret := (some .boolean)) (by decide) rfl ?_
  intro p e s m args below meth c s₁ B hml hv
  obtain ⟨rfl, hP, hK⟩ := hv
  have C0 : cx p s m _ meth c b_O_allOnOneLine (some .boolean) 2 R_O := ⟨B.exec, B.bytes, B.returns, hml, fun w hw => atoms_spec (ws := w_O_allOnOneLine) B.pre w (List.mem_cons_of_mem _ hw), findClass_of_methodNamed B.named, B.notSynchronized⟩
  obtain ⟨hx, hb, hr, hml, hts, hown, hlocks⟩ := id C0
  have hl := lv_entry ([.ref gP]) (n := 2) (Nat.le_of_ble_eq_true rfl)
  rw [lg_entry_eq]
  generalize (lg_sl ([.ref gP]) ++ List.replicate (2 - (lg_sl ([.ref gP])).length) Slot.unset).toArray = ls at hl ⊢
  have hl : lv_has ls 2 [(0, .ref gP)] := hl
  refine lv_iconst (v := (2 : Int32)) hx hb d_O_allOnOneLine_0 rfl ?_
  refine lv_istore_n (lv' := [(1, .int (2 : Int32)), (0, .ref gP)]) hx hb d_O_allOnOneLine_1 rfl hl (by decide) rfl (fun ls hl => ?_)
  exact t_O_allOnOneLine_L2 C0 hK hP  600 (2 : Int32) hf ls (lv_sub hl [1, 0] rfl)
set_option maxHeartbeats 4000000 in
set_option maxRecDepth 100000 in
theorem t_O_push_b51 {p : Program} {l : Launch} {e : Env} {s : State} {m : MethodId} {args : Array Value} {below : List Frame} {meth : Method} {c : Code} {dC : Nat → ClassId} {dI : Nat → Nat → Nat} {cI cZ : ClassId} {gP aXs aYs aTk aOr gO aRow : Nat} {s_xs : Nat → Int32} {s_ys : Nat → Int32} {s_pn : Int32} {s_fl : Int32} {s_row' : Nat → Int32} {s_on' : Int32} {A : Nat → Prop} (C0 : cx p s m args meth c b_O_push none 3 R_O) (hK : gK dC dI cI cZ s) (hA : ∀ q, s.heap.size ≤ q → A q) : ∀ (s_row : Nat → Int32) (s_on : Int32) (x2 : Int32), f_O_push_b51 s_xs s_ys s_row s_on x2 = some (s_row', s_on') → ∀ (H : Heap) (locs : List Loc), va_P (dC, dI) vwCl [(gP, .inr (1, [.ref aXs, .ref aYs, .ref aTk, .ref aOr, .int s_pn])), (aXs, .inl (cI, 20, .inl s_xs)), (aYs, .inl (cI, 20, .inl s_ys)), (gO, .inr (2, [.ref aRow, .int s_on, .int s_fl])), (aRow, .inl (cI, 40, .inl s_row))] H → va_D A [(gP, .inr (1, [.ref aXs, .ref aYs, .ref aTk, .ref aOr, .int s_pn])), (aXs, .inl (cI, 20, .inl s_xs)), (aYs, .inl (cI, 20, .inl s_ys)), (gO, .inr (2, [.ref aRow, .int s_on, .int s_fl])), (aRow, .inl (cI, 40, .inl s_row))] → va_S A s.heap H locs → ∀ (ls : Array Slot), lv_has ls 3 [(0, .ref gO), (2, .int x2)] → W p l e (headSpec w_O_push ({ frames := 2, cells := 0, slots := 0, locals := 55 } : Room)).room s m args below meth c H locs 0 0 (MQ below (QwV dC dI A [(gP, .inr (1, [.ref aXs, .ref aYs, .ref aTk, .ref aOr, .int s_pn])), (aXs, .inl (cI, 20, .inl s_xs)), (aYs, .inl (cI, 20, .inl s_ys)), (gO, .inr (2, [.ref aRow, .int s_on', .int s_fl])), (aRow, .inl (cI, 40, .inl s_row'))]) args s 0 0 A) (F0 m 51 ls []) := by
  obtain ⟨hx, hb, hr, hml, hts, hown, hlocks⟩ := id C0
  intro s_row s_on x2 hf H locs hP hD hS ls hl
  refine lv_aload_n hx hb d_O_push_51 rfl (lv_at hl 0 rfl) ?_
  refine va_get (D := (dC, dI)) (ci := 2) (v := .int s_on) (C := R_O) (T := T_O) (N := 3) hx hb hts in_O hown hK.1 hP 3 rfl rfl 1 (by decide) (hts _ bw_46) (fun _ h9 => h9) rfl d_O_push_52 ?_
  refine lv_aload_n hx hb d_O_push_55 rfl (lv_at hl 0 rfl) ?_
  refine va_get (D := (dC, dI)) (ci := 2) (v := .ref aRow) (C := R_O) (T := T_O) (N := 3) hx hb hts in_O hown hK.1 hP 3 rfl rfl 0 (by decide) (hts _ bw_45) (fun _ h9 => h9) rfl d_O_push_56 ?_
  refine va_alen (cA := cI) (x := (40, .inl s_row)) (ty := .int) (v := (40 : Int32)) hx hb hK.1 hP 4 0 rfl rfl rfl d_O_push_59 ?_
  refine lv_icmp_ge (tgt := 83) hx hb d_O_push_60 (by decide) (fun hc1 => ?_) (fun hc1 => ?_)
  · have hf := o_t hf hc1
    cases hf
    exact wr_v hx hb hr hlocks hP hD hS d_O_push_83
  · have hf := o_f hf hc1
    refine lv_aload_n hx hb d_O_push_63 rfl (lv_at hl 0 rfl) ?_
    refine va_get (D := (dC, dI)) (ci := 2) (v := .ref aRow) (C := R_O) (T := T_O) (N := 3) hx hb hts in_O hown hK.1 hP 3 rfl rfl 0 (by decide) (hts _ bw_45) (fun _ h9 => h9) rfl d_O_push_64 ?_
    refine lv_aload_n hx hb d_O_push_67 rfl (lv_at hl 0 rfl) ?_
    refine va_get (D := (dC, dI)) (ci := 2) (v := .int s_on) (C := R_O) (T := T_O) (N := 3) hx hb hts in_O hown hK.1 hP 3 rfl rfl 1 (by decide) (hts _ bw_46) (fun _ h9 => h9) rfl d_O_push_68 ?_
    refine lv_iload_n hx hb d_O_push_71 rfl (lv_at hl 1 rfl) ?_
    obtain ⟨hi2, hf⟩ := o_i hf
    refine va_iast (cA := cI) (n := 40) (f := s_row) hx hb hK.1 hP hD hS 4 0 rfl rfl hi2 d_O_push_72 (fun H locs hP hD hS => ?_)
    have hP : va_P (dC, dI) vwCl [(gP, .inr (1, [.ref aXs, .ref aYs, .ref aTk, .ref aOr, .int s_pn])), (aXs, .inl (cI, 20, .inl s_xs)), (aYs, .inl (cI, 20, .inl s_ys)), (gO, .inr (2, [.ref aRow, .int s_on, .int s_fl])), (aRow, .inl (cI, 40, .inl (upd s_row s_on.toNatClampNeg x2)))] H := hP
    have hD : va_D A [(gP, .inr (1, [.ref aXs, .ref aYs, .ref aTk, .ref aOr, .int s_pn])), (aXs, .inl (cI, 20, .inl s_xs)), (aYs, .inl (cI, 20, .inl s_ys)), (gO, .inr (2, [.ref aRow, .int s_on, .int s_fl])), (aRow, .inl (cI, 40, .inl (upd s_row s_on.toNatClampNeg x2)))] := hD
    refine lv_aload_n hx hb d_O_push_73 rfl (lv_at hl 0 rfl) ?_
    refine lv_dup hx hb d_O_push_74 rfl ?_
    refine va_get (D := (dC, dI)) (ci := 2) (v := .int s_on) (C := R_O) (T := T_O) (N := 3) hx hb hts in_O hown hK.1 hP 3 rfl rfl 1 (by decide) (hts _ bw_46) (fun _ h9 => h9) rfl d_O_push_75 ?_
    refine lv_iconst (v := (1 : Int32)) hx hb d_O_push_78 rfl ?_
    refine lv_iadd hx hb d_O_push_79 ?_
    refine va_put (D := (dC, dI)) (ci := 2) (v := .int (s_on + (1 : Int32))) (ty := .int) (C := R_O) (T := T_O) (N := 3) hx hb hts in_O ty_O tok_O nok_O hown hK.1 hP hD hS 3 rfl rfl 1 (by decide) (hts _ bw_46) (fun _ h9 => h9) rfl (by decide +kernel) rfl rfl (Nat.le_of_ble_eq_true rfl) d_O_push_80 (fun H locs hP hD hS => ?_)
    have hP : va_P (dC, dI) vwCl [(gP, .inr (1, [.ref aXs, .ref aYs, .ref aTk, .ref aOr, .int s_pn])), (aXs, .inl (cI, 20, .inl s_xs)), (aYs, .inl (cI, 20, .inl s_ys)), (gO, .inr (2, [.ref aRow, .int (s_on + (1 : Int32)), .int s_fl])), (aRow, .inl (cI, 40, .inl (upd s_row s_on.toNatClampNeg x2)))] H := hP
    have hD : va_D A [(gP, .inr (1, [.ref aXs, .ref aYs, .ref aTk, .ref aOr, .int s_pn])), (aXs, .inl (cI, 20, .inl s_xs)), (aYs, .inl (cI, 20, .inl s_ys)), (gO, .inr (2, [.ref aRow, .int (s_on + (1 : Int32)), .int s_fl])), (aRow, .inl (cI, 40, .inl (upd s_row s_on.toNatClampNeg x2)))] := hD
    cases hf
    exact wr_v hx hb hr hlocks hP hD hS d_O_push_83
set_option maxHeartbeats 4000000 in
set_option maxRecDepth 100000 in
theorem t_O_push_L0 {p : Program} {l : Launch} {e : Env} {s : State} {m : MethodId} {args : Array Value} {below : List Frame} {meth : Method} {c : Code} {dC : Nat → ClassId} {dI : Nat → Nat → Nat} {cI cZ : ClassId} {gP aXs aYs aTk aOr gO aRow : Nat} {s_xs : Nat → Int32} {s_ys : Nat → Int32} {s_pn : Int32} {s_fl : Int32} {s_row' : Nat → Int32} {s_on' : Int32} {A : Nat → Prop} (C0 : cx p s m args meth c b_O_push none 3 R_O) (hK : gK dC dI cI cZ s) (hA : ∀ q, s.heap.size ≤ q → A q) : ∀ (n : Nat) (s_row : Nat → Int32) (s_on : Int32) (x2 : Int32), f_O_push_L0 s_xs s_ys n s_row s_on x2 = some (s_row', s_on') → ∀ (H : Heap) (locs : List Loc), va_P (dC, dI) vwCl [(gP, .inr (1, [.ref aXs, .ref aYs, .ref aTk, .ref aOr, .int s_pn])), (aXs, .inl (cI, 20, .inl s_xs)), (aYs, .inl (cI, 20, .inl s_ys)), (gO, .inr (2, [.ref aRow, .int s_on, .int s_fl])), (aRow, .inl (cI, 40, .inl s_row))] H → va_D A [(gP, .inr (1, [.ref aXs, .ref aYs, .ref aTk, .ref aOr, .int s_pn])), (aXs, .inl (cI, 20, .inl s_xs)), (aYs, .inl (cI, 20, .inl s_ys)), (gO, .inr (2, [.ref aRow, .int s_on, .int s_fl])), (aRow, .inl (cI, 40, .inl s_row))] → va_S A s.heap H locs → ∀ (ls : Array Slot), lv_has ls 3 [(0, .ref gO), (1, .ref gP), (2, .int x2)] → W p l e (headSpec w_O_push ({ frames := 2, cells := 0, slots := 0, locals := 55 } : Room)).room s m args below meth c H locs 0 0 (MQ below (QwV dC dI A [(gP, .inr (1, [.ref aXs, .ref aYs, .ref aTk, .ref aOr, .int s_pn])), (aXs, .inl (cI, 20, .inl s_xs)), (aYs, .inl (cI, 20, .inl s_ys)), (gO, .inr (2, [.ref aRow, .int s_on', .int s_fl])), (aRow, .inl (cI, 40, .inl s_row'))]) args s 0 0 A) (F0 m 0 ls []) := by
  obtain ⟨hx, hb, hr, hml, hts, hown, hlocks⟩ := id C0
  intro n
  induction n with
  | zero =>
    intro s_row s_on x2 hf
    exact (o_n hf).elim
  | succ n ih =>
    intro s_row s_on x2 hf H locs hP hD hS ls hl
    refine lv_aload_n hx hb d_O_push_0 rfl (lv_at hl 0 rfl) ?_
    refine va_get (D := (dC, dI)) (ci := 2) (v := .int s_on) (C := R_O) (T := T_O) (N := 3) hx hb hts in_O hown hK.1 hP 3 rfl rfl 1 (by decide) (hts _ bw_46) (fun _ h9 => h9) rfl d_O_push_1 ?_
    refine lv_iconst (v := (2 : Int32)) hx hb d_O_push_4 rfl ?_
    refine lv_icmp_lt (tgt := 51) hx hb d_O_push_5 (by decide) (fun hc3 => ?_) (fun hc3 => ?_)
    · have hf := o_t hf hc3
      exact t_O_push_b51 C0 hK hA  s_row s_on x2 hf _ _ hP hD hS ls (lv_sub hl [0, 2] rfl)
    · have hf := o_f hf hc3
      refine lv_aload_n hx hb d_O_push_8 rfl (lv_at hl 1 rfl) ?_
      refine lv_aload_n hx hb d_O_push_9 rfl (lv_at hl 0 rfl) ?_
      refine va_get (D := (dC, dI)) (ci := 2) (v := .ref aRow) (C := R_O) (T := T_O) (N := 3) hx hb hts in_O hown hK.1 hP 3 rfl rfl 0 (by decide) (hts _ bw_45) (fun _ h9 => h9) rfl d_O_push_10 ?_
      refine lv_aload_n hx hb d_O_push_13 rfl (lv_at hl 0 rfl) ?_
      refine va_get (D := (dC, dI)) (ci := 2) (v := .int s_on) (C := R_O) (T := T_O) (N := 3) hx hb hts in_O hown hK.1 hP 3 rfl rfl 1 (by decide) (hts _ bw_46) (fun _ h9 => h9) rfl d_O_push_14 ?_
      refine lv_iconst (v := (2 : Int32)) hx hb d_O_push_17 rfl ?_
      refine lv_isub hx hb d_O_push_18 ?_
      obtain ⟨hi4, hf⟩ := o_i hf
      refine va_iald (cA := cI) (n := 40) (f := s_row) hx hb hK.1 hP 4 0 rfl rfl hi4 d_O_push_19 ?_
      refine lv_aload_n hx hb d_O_push_20 rfl (lv_at hl 0 rfl) ?_
      refine va_get (D := (dC, dI)) (ci := 2) (v := .ref aRow) (C := R_O) (T := T_O) (N := 3) hx hb hts in_O hown hK.1 hP 3 rfl rfl 0 (by decide) (hts _ bw_45) (fun _ h9 => h9) rfl d_O_push_21 ?_
      refine lv_aload_n hx hb d_O_push_24 rfl (lv_at hl 0 rfl) ?_
      refine va_get (D := (dC, dI)) (ci := 2) (v := .int s_on) (C := R_O) (T := T_O) (N := 3) hx hb hts in_O hown hK.1 hP 3 rfl rfl 1 (by decide) (hts _ bw_46) (fun _ h9 => h9) rfl d_O_push_25 ?_
      refine lv_iconst (v := (1 : Int32)) hx hb d_O_push_28 rfl ?_
      refine lv_isub hx hb d_O_push_29 ?_
      obtain ⟨hi5, hf⟩ := o_i hf
      refine va_iald (cA := cI) (n := 40) (f := s_row) hx hb hK.1 hP 4 0 rfl rfl hi5 d_O_push_30 ?_
      refine lv_iload_n hx hb d_O_push_31 rfl (lv_at hl 2 rfl) ?_
      obtain ⟨r6, hv8, hf⟩ := o_b hf
      refine rc_i (va_runV (As := [.int (s_row (s_on - (2 : Int32)).toNatClampNeg), .int (s_row (s_on - (1 : Int32)).toNatClampNeg), .int x2]) (rest := []) ⟨hx, hb, hml, hown, hts⟩ (c_P_side l dC dI cI cZ gP aXs aYs aTk aOr s_xs s_ys s_pn (s_row (s_on - (2 : Int32)).toNatClampNeg) (s_row (s_on - (1 : Int32)).toNatClampNeg) x2 r6 hv8) (cwV 3 hts (gd_V bw_181 bw_182 bw_183 bw_2 bw_184) rfl rfl rfl ⟨rfl, hd_P_side⟩ ⟨Nat.le_of_ble_eq_true rfl, Nat.le_of_ble_eq_true rfl⟩) (pv_r (wc := [(gP, .inr (1, [.ref aXs, .ref aYs, .ref aTk, .ref aOr, .int s_pn])), (aXs, .inl (cI, 20, .inl s_xs)), (aYs, .inl (cI, 20, .inl s_ys))]) hK hP [0, 1, 2] rfl 0 (ci := 1) rfl rfl) rfl rfl hl.1 rfl (lv_room (Nat.le_of_ble_eq_true rfl)) d_O_push_32 ⟨Nat.zero_le _, Nat.zero_le _⟩) ?_
      refine lv_if_ge (tgt := 51) hx hb d_O_push_35 (by decide) (fun hc9 => ?_) (fun hc9 => ?_)
      · have hf := o_t hf hc9
        exact t_O_push_b51 C0 hK hA  s_row s_on x2 hf _ _ hP hD hS ls (lv_sub hl [0, 2] rfl)
      · have hf := o_f hf hc9
        refine lv_aload_n hx hb d_O_push_38 rfl (lv_at hl 0 rfl) ?_
        refine lv_dup hx hb d_O_push_39 rfl ?_
        refine va_get (D := (dC, dI)) (ci := 2) (v := .int s_on) (C := R_O) (T := T_O) (N := 3) hx hb hts in_O hown hK.1 hP 3 rfl rfl 1 (by decide) (hts _ bw_46) (fun _ h9 => h9) rfl d_O_push_40 ?_
        refine lv_iconst (v := (1 : Int32)) hx hb d_O_push_43 rfl ?_
        refine lv_isub hx hb d_O_push_44 ?_
        refine va_put (D := (dC, dI)) (ci := 2) (v := .int (s_on - (1 : Int32))) (ty := .int) (C := R_O) (T := T_O) (N := 3) hx hb hts in_O ty_O tok_O nok_O hown hK.1 hP hD hS 3 rfl rfl 1 (by decide) (hts _ bw_46) (fun _ h9 => h9) rfl (by decide +kernel) rfl rfl (Nat.le_of_ble_eq_true rfl) d_O_push_45 (fun H locs hP hD hS => ?_)
        have hP : va_P (dC, dI) vwCl [(gP, .inr (1, [.ref aXs, .ref aYs, .ref aTk, .ref aOr, .int s_pn])), (aXs, .inl (cI, 20, .inl s_xs)), (aYs, .inl (cI, 20, .inl s_ys)), (gO, .inr (2, [.ref aRow, .int (s_on - (1 : Int32)), .int s_fl])), (aRow, .inl (cI, 40, .inl s_row))] H := hP
        have hD : va_D A [(gP, .inr (1, [.ref aXs, .ref aYs, .ref aTk, .ref aOr, .int s_pn])), (aXs, .inl (cI, 20, .inl s_xs)), (aYs, .inl (cI, 20, .inl s_ys)), (gO, .inr (2, [.ref aRow, .int (s_on - (1 : Int32)), .int s_fl])), (aRow, .inl (cI, 40, .inl s_row))] := hD
        refine lv_goto (tgt := 0) hx hb d_O_push_48 (by decide) ?_
        exact ih s_row (s_on - (1 : Int32)) x2 hf _ _ hP hD hS ls (lv_sub hl [0, 1, 2] rfl)
set_option maxHeartbeats 4000000 in
set_option maxRecDepth 100000 in
theorem t_O_push_e {p : Program} {l : Launch} {e : Env} {s : State} {m : MethodId} {args : Array Value} {below : List Frame} {meth : Method} {c : Code} {dC : Nat → ClassId} {dI : Nat → Nat → Nat} {cI cZ : ClassId} {gP aXs aYs aTk aOr gO aRow : Nat} {s_xs : Nat → Int32} {s_ys : Nat → Int32} {s_pn : Int32} {s_fl : Int32} {s_row' : Nat → Int32} {s_on' : Int32} {A : Nat → Prop} (C0 : cx p s m args meth c b_O_push none 3 R_O) (hK : gK dC dI cI cZ s) (hA : ∀ q, s.heap.size ≤ q → A q) : ∀ (s_row : Nat → Int32) (s_on : Int32) (x2 : Int32), f_O_push s_xs s_ys s_row s_on x2 = some (s_row', s_on') → ∀ (H : Heap) (locs : List Loc), va_P (dC, dI) vwCl [(gP, .inr (1, [.ref aXs, .ref aYs, .ref aTk, .ref aOr, .int s_pn])), (aXs, .inl (cI, 20, .inl s_xs)), (aYs, .inl (cI, 20, .inl s_ys)), (gO, .inr (2, [.ref aRow, .int s_on, .int s_fl])), (aRow, .inl (cI, 40, .inl s_row))] H → va_D A [(gP, .inr (1, [.ref aXs, .ref aYs, .ref aTk, .ref aOr, .int s_pn])), (aXs, .inl (cI, 20, .inl s_xs)), (aYs, .inl (cI, 20, .inl s_ys)), (gO, .inr (2, [.ref aRow, .int s_on, .int s_fl])), (aRow, .inl (cI, 40, .inl s_row))] → va_S A s.heap H locs → ∀ (ls : Array Slot), lv_has ls 3 [(0, .ref gO), (1, .ref gP), (2, .int x2)] → W p l e (headSpec w_O_push ({ frames := 2, cells := 0, slots := 0, locals := 55 } : Room)).room s m args below meth c H locs 0 0 (MQ below (QwV dC dI A [(gP, .inr (1, [.ref aXs, .ref aYs, .ref aTk, .ref aOr, .int s_pn])), (aXs, .inl (cI, 20, .inl s_xs)), (aYs, .inl (cI, 20, .inl s_ys)), (gO, .inr (2, [.ref aRow, .int s_on', .int s_fl])), (aRow, .inl (cI, 40, .inl s_row'))]) args s 0 0 A) (F0 m 0 ls []) := by
  obtain ⟨hx, hb, hr, hml, hts, hown, hlocks⟩ := id C0
  intro s_row s_on x2 hf H locs hP hD hS ls hl
  exact t_O_push_L0 C0 hK hA  600 s_row s_on x2 hf _ _ hP hD hS ls (lv_sub hl [0, 1, 2] rfl)
set_option maxHeartbeats 4000000 in
set_option maxRecDepth 100000 in
theorem c_O_push (l : Launch) (dC : Nat → ClassId) (dI : Nat → Nat → Nat) (cI cZ : ClassId) (gP aXs aYs aTk aOr gO aRow : Nat) (s_xs : Nat → Int32) (s_ys : Nat → Int32) (s_pn : Int32) (s_row : Nat → Int32) (s_on : Int32) (s_fl : Int32) (x2 : Int32) (s_row' : Nat → Int32) (s_on' : Int32) (sz : Nat) (hf : f_O_push s_xs s_ys s_row s_on x2 = some (s_row', s_on')) : Met l y_O_push w_O_push ({ frames := 2, cells := 0, slots := 0, locals := 55 } : Room) (PcW dC dI cI cZ [.ref gO, .ref gP, .int x2] [(gP, .inr (1, [.ref aXs, .ref aYs, .ref aTk, .ref aOr, .int s_pn])), (aXs, .inl (cI, 20, .inl s_xs)), (aYs, .inl (cI, 20, .inl s_ys)), (gO, .inr (2, [.ref aRow, .int s_on, .int s_fl])), (aRow, .inl (cI, 40, .inl s_row))] sz) (QwV dC dI (va_A [(gP, .inr (1, [.ref aXs, .ref aYs, .ref aTk, .ref aOr, .int s_pn])), (aXs, .inl (cI, 20, .inl s_xs)), (aYs, .inl (cI, 20, .inl s_ys)), (gO, .inr (2, [.ref aRow, .int s_on, .int s_fl])), (aRow, .inl (cI, 40, .inl s_row))] sz) [(gP, .inr (1, [.ref aXs, .ref aYs, .ref aTk, .ref aOr, .int s_pn])), (aXs, .inl (cI, 20, .inl s_xs)), (aYs, .inl (cI, 20, .inl s_ys)), (gO, .inr (2, [.ref aRow, .int s_on', .int s_fl])), (aRow, .inl (cI, 40, .inl s_row'))]) 0 0 (va_A [(gP, .inr (1, [.ref aXs, .ref aYs, .ref aTk, .ref aOr, .int s_pn])), (aXs, .inl (cI, 20, .inl s_xs)), (aYs, .inl (cI, 20, .inl s_ys)), (gO, .inr (2, [.ref aRow, .int s_on, .int s_fl])), (aRow, .inl (cI, 40, .inl s_row))] sz) := by
  refine Met.ofW (cc := b_O_push) (maxL := 3) (ret := none) (by decide) rfl ?_
  intro p e s m args below meth c s₁ B hml hv
  obtain ⟨rfl, hsz, hP, hK, hD0⟩ := hv
  have C0 : cx p s m _ meth c b_O_push none 3 R_O := ⟨B.exec, B.bytes, B.returns, hml, fun w hw => atoms_spec (ws := w_O_push) B.pre w (List.mem_cons_of_mem _ hw), findClass_of_methodNamed B.named, B.notSynchronized⟩
  subst hsz
  have hD := hD0.self (sz := s.heap.size)
  generalize hAe : va_A [(gP, .inr (1, [.ref aXs, .ref aYs, .ref aTk, .ref aOr, .int s_pn])), (aXs, .inl (cI, 20, .inl s_xs)), (aYs, .inl (cI, 20, .inl s_ys)), (gO, .inr (2, [.ref aRow, .int s_on, .int s_fl])), (aRow, .inl (cI, 40, .inl s_row))] s.heap.size = A at hD ⊢
  have hA : ∀ q : Nat, s.heap.size ≤ q → A q := fun q h => by rw [← hAe]; exact Or.inr h
  have hl := lv_entry ([.ref gO, .ref gP, .int x2]) (n := 3) (Nat.le_of_ble_eq_true rfl)
  rw [lg_entry_eq]
  generalize (lg_sl ([.ref gO, .ref gP, .int x2]) ++ List.replicate (3 - (lg_sl ([.ref gO, .ref gP, .int x2])).length) Slot.unset).toArray = ls at hl ⊢
  have hl : lv_has ls 3 [(0, .ref gO), (1, .ref gP), (2, .int x2)] := hl
  exact t_O_push_e C0 hK hA s_row s_on x2 hf _ _ hP hD va_S.rf ls hl
set_option maxHeartbeats 4000000 in
set_option maxRecDepth 100000 in
theorem t_O_trace_L55 {p : Program} {l : Launch} {e : Env} {s : State} {m : MethodId} {args : Array Value} {below : List Frame} {meth : Method} {c : Code} {dC : Nat → ClassId} {dI : Nat → Nat → Nat} {cI cZ : ClassId} {gP aXs aYs aTk aOr gO aRow : Nat} {s_xs : Nat → Int32} {s_ys : Nat → Int32} {s_or : Nat → Int32} {s_pn : Int32} {s_row' : Nat → Int32} {s_on' : Int32} {s_fl' : Int32} {A : Nat → Prop} (C0 : cx p s m args meth c b_O_trace none 4 R_O) (hK : gK dC dI cI cZ s) (hA : ∀ q, s.heap.size ≤ q → A q) : ∀ (n : Nat) (s_row : Nat → Int32) (s_on : Int32) (s_fl : Int32) (x3 : Int32), f_O_trace_L55 s_xs s_ys s_or s_pn n s_row s_on s_fl x3 = some (s_row', s_on', s_fl') → ∀ (H : Heap) (locs : List Loc), va_P (dC, dI) vwCl [(gP, .inr (1, [.ref aXs, .ref aYs, .ref aTk, .ref aOr, .int s_pn])), (aXs, .inl (cI, 20, .inl s_xs)), (aYs, .inl (cI, 20, .inl s_ys)), (aOr, .inl (cI, 20, .inl s_or)), (gO, .inr (2, [.ref aRow, .int s_on, .int s_fl])), (aRow, .inl (cI, 40, .inl s_row))] H → va_D A [(gP, .inr (1, [.ref aXs, .ref aYs, .ref aTk, .ref aOr, .int s_pn])), (aXs, .inl (cI, 20, .inl s_xs)), (aYs, .inl (cI, 20, .inl s_ys)), (aOr, .inl (cI, 20, .inl s_or)), (gO, .inr (2, [.ref aRow, .int s_on, .int s_fl])), (aRow, .inl (cI, 40, .inl s_row))] → va_S A s.heap H locs → ∀ (ls : Array Slot), lv_has ls 4 [(0, .ref gO), (1, .ref gP), (3, .int x3)] → W p l e (headSpec w_O_trace ({ frames := 3, cells := 0, slots := 0, locals := 77 } : Room)).room s m args below meth c H locs 0 0 (MQ below (QwV dC dI A [(gP, .inr (1, [.ref aXs, .ref aYs, .ref aTk, .ref aOr, .int s_pn])), (aXs, .inl (cI, 20, .inl s_xs)), (aYs, .inl (cI, 20, .inl s_ys)), (aOr, .inl (cI, 20, .inl s_or)), (gO, .inr (2, [.ref aRow, .int s_on', .int s_fl'])), (aRow, .inl (cI, 40, .inl s_row'))]) args s 0 0 A) (F0 m 55 ls []) := by
  obtain ⟨hx, hb, hr, hml, hts, hown, hlocks⟩ := id C0
  intro n
  induction n with
  | zero =>
    intro s_row s_on s_fl x3 hf
    exact (o_n hf).elim
  | succ n ih =>
    intro s_row s_on s_fl x3 hf H locs hP hD hS ls hl
    refine lv_iload_n hx hb d_O_trace_55 rfl (lv_at hl 2 rfl) ?_
    refine lv_if_lt (tgt := 75) hx hb d_O_trace_56 (by decide) (fun hc1 => ?_) (fun hc1 => ?_)
    · have hf := o_t hf hc1
      refine lv_aload_n hx hb d_O_trace_75 rfl (lv_at hl 0 rfl) ?_
      refine lv_dup hx hb d_O_trace_76 rfl ?_
      refine va_get (D := (dC, dI)) (ci := 2) (v := .int s_on) (C := R_O) (T := T_O) (N := 3) hx hb hts in_O hown hK.1 hP 4 rfl rfl 1 (by decide) (hts _ bw_46) (fun _ h9 => h9) rfl d_O_trace_77 ?_
      refine lv_iconst (v := (1 : Int32)) hx hb d_O_trace_80 rfl ?_
      refine lv_isub hx hb d_O_trace_81 ?_
      refine va_put (D := (dC, dI)) (ci := 2) (v := .int (s_on - (1 : Int32))) (ty := .int) (C := R_O) (T := T_O) (N := 3) hx hb hts in_O ty_O tok_O nok_O hown hK.1 hP hD hS 4 rfl rfl 1 (by decide) (hts _ bw_46) (fun _ h9 => h9) rfl (by decide +kernel) rfl rfl (Nat.le_of_ble_eq_true rfl) d_O_trace_82 (fun H locs hP hD hS => ?_)
      have hP : va_P (dC, dI) vwCl [(gP, .inr (1, [.ref aXs, .ref aYs, .ref aTk, .ref aOr, .int s_pn])), (aXs, .inl (cI, 20, .inl s_xs)), (aYs, .inl (cI, 20, .inl s_ys)), (aOr, .inl (cI, 20, .inl s_or)), (gO, .inr (2, [.ref aRow, .int (s_on - (1 : Int32)), .int s_fl])), (aRow, .inl (cI, 40, .inl s_row))] H := hP
      have hD : va_D A [(gP, .inr (1, [.ref aXs, .ref aYs, .ref aTk, .ref aOr, .int s_pn])), (aXs, .inl (cI, 20, .inl s_xs)), (aYs, .inl (cI, 20, .inl s_ys)), (aOr, .inl (cI, 20, .inl s_or)), (gO, .inr (2, [.ref aRow, .int (s_on - (1 : Int32)), .int s_fl])), (aRow, .inl (cI, 40, .inl s_row))] := hD
      cases hf
      exact wr_v hx hb hr hlocks hP hD hS d_O_trace_85
    · have hf := o_f hf hc1
      refine lv_aload_n hx hb d_O_trace_59 rfl (lv_at hl 0 rfl) ?_
      refine lv_aload_n hx hb d_O_trace_60 rfl (lv_at hl 1 rfl) ?_
      refine lv_aload_n hx hb d_O_trace_61 rfl (lv_at hl 1 rfl) ?_
      refine lv_iload_n hx hb d_O_trace_62 rfl (lv_at hl 2 rfl) ?_
      obtain ⟨r2, hv4, hf⟩ := o_b hf
      refine rc_i (va_runV (As := [.int x3]) (rest := [.ref gP, .ref gO]) ⟨hx, hb, hml, hown, hts⟩ (c_P_inOrder l dC dI cI cZ gP aXs aYs aTk aOr s_or s_pn x3 r2 hv4) (cwV 1 hts (gd_V bw_177 bw_178 bw_179 bw_2 bw_180) rfl rfl rfl ⟨rfl, hd_P_inOrder⟩ ⟨Nat.le_of_ble_eq_true rfl, Nat.le_of_ble_eq_true rfl⟩) (pv_r (wc := [(gP, .inr (1, [.ref aXs, .ref aYs, .ref aTk, .ref aOr, .int s_pn])), (aOr, .inl (cI, 20, .inl s_or))]) hK hP [0, 3] rfl 0 (ci := 1) rfl rfl) rfl rfl hl.1 rfl (lv_room (Nat.le_of_ble_eq_true rfl)) d_O_trace_63 ⟨Nat.zero_le _, Nat.zero_le _⟩) ?_
      obtain ⟨⟨r5, r6⟩, hv8, hf⟩ := o_b hf
      refine wc_v (wr := [(aOr, .inl (cI, 20, .inl s_or))]) (w1 := [(gP, .inr (1, [.ref aXs, .ref aYs, .ref aTk, .ref aOr, .int s_pn])), (aXs, .inl (cI, 20, .inl s_xs)), (aYs, .inl (cI, 20, .inl s_ys)), (gO, .inr (2, [.ref aRow, .int r6, .int s_fl])), (aRow, .inl (cI, 40, .inl r5))]) (va_runV (As := [.ref gP, .int r2]) (rest := []) ⟨hx, hb, hml, hown, hts⟩ (c_O_push l dC dI cI cZ gP aXs aYs aTk aOr gO aRow s_xs s_ys s_pn s_row s_on s_fl r2 r5 r6 H.size hv8) (cwV 2 hts (gd_V bw_192 bw_194 bp_2 bw_3 bw_195) rfl rfl rfl ⟨rfl, hd_O_push⟩ ⟨Nat.le_of_ble_eq_true rfl, Nat.le_of_ble_eq_true rfl⟩) (pv_w (wc := [(gP, .inr (1, [.ref aXs, .ref aYs, .ref aTk, .ref aOr, .int s_pn])), (aXs, .inl (cI, 20, .inl s_xs)), (aYs, .inl (cI, 20, .inl s_ys)), (gO, .inr (2, [.ref aRow, .int s_on, .int s_fl])), (aRow, .inl (cI, 40, .inl s_row))]) hK hP hD [0, 1, 2, 4, 5] rfl rfl (by decide) 3 (ci := 2) rfl rfl) rfl rfl hl.1 rfl (lv_room (Nat.le_of_ble_eq_true rfl)) d_O_trace_66 ⟨Nat.zero_le _, Nat.zero_le _⟩) hP hD hS hA [0, 1, 2, 4, 5] [3] rfl rfl (by decide) (by decide) (fun H locs hP hD hS => ?_)
      have hP : va_P (dC, dI) vwCl [(gP, .inr (1, [.ref aXs, .ref aYs, .ref aTk, .ref aOr, .int s_pn])), (aXs, .inl (cI, 20, .inl s_xs)), (aYs, .inl (cI, 20, .inl s_ys)), (aOr, .inl (cI, 20, .inl s_or)), (gO, .inr (2, [.ref aRow, .int r6, .int s_fl])), (aRow, .inl (cI, 40, .inl r5))] H := hP.sub [1, 2, 3, 0, 4, 5] rfl
      have hD : va_D A [(gP, .inr (1, [.ref aXs, .ref aYs, .ref aTk, .ref aOr, .int s_pn])), (aXs, .inl (cI, 20, .inl s_xs)), (aYs, .inl (cI, 20, .inl s_ys)), (aOr, .inl (cI, 20, .inl s_or)), (gO, .inr (2, [.ref aRow, .int r6, .int s_fl])), (aRow, .inl (cI, 40, .inl r5))] := hD.sub [1, 2, 3, 0, 4, 5] (by decide) rfl
      refine lv_iinc (v := (x3 + (-1))) (lv' := [(3, .int (x3 + (-1))), (0, .ref gO), (1, .ref gP)]) hx hb d_O_trace_69 hl (k := 2) rfl rfl (by decide) rfl (fun ls hl => ?_)
      refine lv_goto (tgt := 55) hx hb d_O_trace_72 (by decide) ?_
      exact ih r5 r6 s_fl (x3 + (-1)) hf _ _ hP hD hS ls (lv_sub hl [1, 2, 0] rfl)
set_option maxHeartbeats 4000000 in
set_option maxRecDepth 100000 in
theorem t_O_trace_L22 {p : Program} {l : Launch} {e : Env} {s : State} {m : MethodId} {args : Array Value} {below : List Frame} {meth : Method} {c : Code} {dC : Nat → ClassId} {dI : Nat → Nat → Nat} {cI cZ : ClassId} {gP aXs aYs aTk aOr gO aRow : Nat} {s_xs : Nat → Int32} {s_ys : Nat → Int32} {s_or : Nat → Int32} {s_pn : Int32} {s_row' : Nat → Int32} {s_on' : Int32} {s_fl' : Int32} {A : Nat → Prop} (C0 : cx p s m args meth c b_O_trace none 4 R_O) (hK : gK dC dI cI cZ s) (hA : ∀ q, s.heap.size ≤ q → A q) : ∀ (n : Nat) (s_row : Nat → Int32) (s_on : Int32) (s_fl : Int32) (x2 : Int32) (x3 : Int32), f_O_trace_L22 s_xs s_ys s_or s_pn n s_row s_on s_fl x2 x3 = some (s_row', s_on', s_fl') → ∀ (H : Heap) (locs : List Loc), va_P (dC, dI) vwCl [(gP, .inr (1, [.ref aXs, .ref aYs, .ref aTk, .ref aOr, .int s_pn])), (aXs, .inl (cI, 20, .inl s_xs)), (aYs, .inl (cI, 20, .inl s_ys)), (aOr, .inl (cI, 20, .inl s_or)), (gO, .inr (2, [.ref aRow, .int s_on, .int s_fl])), (aRow, .inl (cI, 40, .inl s_row))] H → va_D A [(gP, .inr (1, [.ref aXs, .ref aYs, .ref aTk, .ref aOr, .int s_pn])), (aXs, .inl (cI, 20, .inl s_xs)), (aYs, .inl (cI, 20, .inl s_ys)), (aOr, .inl (cI, 20, .inl s_or)), (gO, .inr (2, [.ref aRow, .int s_on, .int s_fl])), (aRow, .inl (cI, 40, .inl s_row))] → va_S A s.heap H locs → ∀ (ls : Array Slot), lv_has ls 4 [(0, .ref gO), (1, .ref gP), (2, .int x2), (3, .int x3)] → W p l e (headSpec w_O_trace ({ frames := 3, cells := 0, slots := 0, locals := 77 } : Room)).room s m args below meth c H locs 0 0 (MQ below (QwV dC dI A [(gP, .inr (1, [.ref aXs, .ref aYs, .ref aTk, .ref aOr, .int s_pn])), (aXs, .inl (cI, 20, .inl s_xs)), (aYs, .inl (cI, 20, .inl s_ys)), (aOr, .inl (cI, 20, .inl s_or)), (gO, .inr (2, [.ref aRow, .int s_on', .int s_fl'])), (aRow, .inl (cI, 40, .inl s_row'))]) args s 0 0 A) (F0 m 22 ls []) := by
  obtain ⟨hx, hb, hr, hml, hts, hown, hlocks⟩ := id C0
  intro n
  induction n with
  | zero =>
    intro s_row s_on s_fl x2 x3 hf
    exact (o_n hf).elim
  | succ n ih =>
    intro s_row s_on s_fl x2 x3 hf H locs hP hD hS ls hl
    refine lv_iload_n hx hb d_O_trace_22 rfl (lv_at hl 3 rfl) ?_
    refine lv_iload_n hx hb d_O_trace_23 rfl (lv_at hl 2 rfl) ?_
    refine lv_icmp_gt (tgt := 43) hx hb d_O_trace_24 (by decide) (fun hc9 => ?_) (fun hc9 => ?_)
    · have hf := o_t hf hc9
      refine lv_aload_n hx hb d_O_trace_43 rfl (lv_at hl 0 rfl) ?_
      refine va_get (D := (dC, dI)) (ci := 2) (v := .int s_fl) (C := R_O) (T := T_O) (N := 3) hx hb hts in_O hown hK.1 hP 4 rfl rfl 2 (by decide) (hts _ bw_47) (fun _ h9 => h9) rfl d_O_trace_44 ?_
      refine lv_if_eq (tgt := 51) hx hb d_O_trace_47 (by decide) (fun hc10 => ?_) (fun hc10 => ?_)
      · have hf := o_t hf hc10
        refine lv_iload_n hx hb d_O_trace_51 rfl (lv_at hl 2 rfl) ?_
        refine lv_iconst (v := (1 : Int32)) hx hb d_O_trace_52 rfl ?_
        refine lv_isub hx hb d_O_trace_53 ?_
        refine lv_istore_n (lv' := [(3, .int (x2 - (1 : Int32))), (0, .ref gO), (1, .ref gP), (2, .int x2)]) hx hb d_O_trace_54 rfl hl (by decide) rfl (fun ls hl => ?_)
        exact t_O_trace_L55 C0 hK hA  600 s_row s_on s_fl (x2 - (1 : Int32)) hf _ _ hP hD hS ls (lv_sub hl [1, 2, 0] rfl)
      · have hf := o_f hf hc10
        cases hf
        exact wr_v hx hb hr hlocks hP hD hS d_O_trace_50
    · have hf := o_f hf hc9
      refine lv_aload_n hx hb d_O_trace_27 rfl (lv_at hl 0 rfl) ?_
      refine lv_aload_n hx hb d_O_trace_28 rfl (lv_at hl 1 rfl) ?_
      refine lv_aload_n hx hb d_O_trace_29 rfl (lv_at hl 1 rfl) ?_
      refine lv_iload_n hx hb d_O_trace_30 rfl (lv_at hl 3 rfl) ?_
      obtain ⟨r11, hv13, hf⟩ := o_b hf
      refine rc_i (va_runV (As := [.int x3]) (rest := [.ref gP, .ref gO]) ⟨hx, hb, hml, hown, hts⟩ (c_P_inOrder l dC dI cI cZ gP aXs aYs aTk aOr s_or s_pn x3 r11 hv13) (cwV 1 hts (gd_V bw_177 bw_178 bw_179 bw_2 bw_180) rfl rfl rfl ⟨rfl, hd_P_inOrder⟩ ⟨Nat.le_of_ble_eq_true rfl, Nat.le_of_ble_eq_true rfl⟩) (pv_r (wc := [(gP, .inr (1, [.ref aXs, .ref aYs, .ref aTk, .ref aOr, .int s_pn])), (aOr, .inl (cI, 20, .inl s_or))]) hK hP [0, 3] rfl 0 (ci := 1) rfl rfl) rfl rfl hl.1 rfl (lv_room (Nat.le_of_ble_eq_true rfl)) d_O_trace_31 ⟨Nat.zero_le _, Nat.zero_le _⟩) ?_
      obtain ⟨⟨r14, r15⟩, hv17, hf⟩ := o_b hf
      refine wc_v (wr := [(aOr, .inl (cI, 20, .inl s_or))]) (w1 := [(gP, .inr (1, [.ref aXs, .ref aYs, .ref aTk, .ref aOr, .int s_pn])), (aXs, .inl (cI, 20, .inl s_xs)), (aYs, .inl (cI, 20, .inl s_ys)), (gO, .inr (2, [.ref aRow, .int r15, .int s_fl])), (aRow, .inl (cI, 40, .inl r14))]) (va_runV (As := [.ref gP, .int r11]) (rest := []) ⟨hx, hb, hml, hown, hts⟩ (c_O_push l dC dI cI cZ gP aXs aYs aTk aOr gO aRow s_xs s_ys s_pn s_row s_on s_fl r11 r14 r15 H.size hv17) (cwV 2 hts (gd_V bw_192 bw_194 bp_2 bw_3 bw_195) rfl rfl rfl ⟨rfl, hd_O_push⟩ ⟨Nat.le_of_ble_eq_true rfl, Nat.le_of_ble_eq_true rfl⟩) (pv_w (wc := [(gP, .inr (1, [.ref aXs, .ref aYs, .ref aTk, .ref aOr, .int s_pn])), (aXs, .inl (cI, 20, .inl s_xs)), (aYs, .inl (cI, 20, .inl s_ys)), (gO, .inr (2, [.ref aRow, .int s_on, .int s_fl])), (aRow, .inl (cI, 40, .inl s_row))]) hK hP hD [0, 1, 2, 4, 5] rfl rfl (by decide) 3 (ci := 2) rfl rfl) rfl rfl hl.1 rfl (lv_room (Nat.le_of_ble_eq_true rfl)) d_O_trace_34 ⟨Nat.zero_le _, Nat.zero_le _⟩) hP hD hS hA [0, 1, 2, 4, 5] [3] rfl rfl (by decide) (by decide) (fun H locs hP hD hS => ?_)
      have hP : va_P (dC, dI) vwCl [(gP, .inr (1, [.ref aXs, .ref aYs, .ref aTk, .ref aOr, .int s_pn])), (aXs, .inl (cI, 20, .inl s_xs)), (aYs, .inl (cI, 20, .inl s_ys)), (aOr, .inl (cI, 20, .inl s_or)), (gO, .inr (2, [.ref aRow, .int r15, .int s_fl])), (aRow, .inl (cI, 40, .inl r14))] H := hP.sub [1, 2, 3, 0, 4, 5] rfl
      have hD : va_D A [(gP, .inr (1, [.ref aXs, .ref aYs, .ref aTk, .ref aOr, .int s_pn])), (aXs, .inl (cI, 20, .inl s_xs)), (aYs, .inl (cI, 20, .inl s_ys)), (aOr, .inl (cI, 20, .inl s_or)), (gO, .inr (2, [.ref aRow, .int r15, .int s_fl])), (aRow, .inl (cI, 40, .inl r14))] := hD.sub [1, 2, 3, 0, 4, 5] (by decide) rfl
      refine lv_iinc (v := (x3 + 1)) (lv' := [(3, .int (x3 + 1)), (0, .ref gO), (1, .ref gP), (2, .int x2)]) hx hb d_O_trace_37 hl (k := 3) rfl rfl (by decide) rfl (fun ls hl => ?_)
      refine lv_goto (tgt := 22) hx hb d_O_trace_40 (by decide) ?_
      exact ih r14 r15 s_fl x2 (x3 + 1) hf _ _ hP hD hS ls (lv_sub hl [1, 2, 3, 0] rfl)
set_option maxHeartbeats 4000000 in
set_option maxRecDepth 100000 in
theorem t_O_trace_e {p : Program} {l : Launch} {e : Env} {s : State} {m : MethodId} {args : Array Value} {below : List Frame} {meth : Method} {c : Code} {dC : Nat → ClassId} {dI : Nat → Nat → Nat} {cI cZ : ClassId} {gP aXs aYs aTk aOr gO aRow : Nat} {s_xs : Nat → Int32} {s_ys : Nat → Int32} {s_or : Nat → Int32} {s_pn : Int32} {s_row' : Nat → Int32} {s_on' : Int32} {s_fl' : Int32} {A : Nat → Prop} (C0 : cx p s m args meth c b_O_trace none 4 R_O) (hK : gK dC dI cI cZ s) (hA : ∀ q, s.heap.size ≤ q → A q) : ∀ (s_row : Nat → Int32) (s_on : Int32) (s_fl : Int32), f_O_trace s_xs s_ys s_or s_pn s_row s_on s_fl = some (s_row', s_on', s_fl') → ∀ (H : Heap) (locs : List Loc), va_P (dC, dI) vwCl [(gP, .inr (1, [.ref aXs, .ref aYs, .ref aTk, .ref aOr, .int s_pn])), (aXs, .inl (cI, 20, .inl s_xs)), (aYs, .inl (cI, 20, .inl s_ys)), (aOr, .inl (cI, 20, .inl s_or)), (gO, .inr (2, [.ref aRow, .int s_on, .int s_fl])), (aRow, .inl (cI, 40, .inl s_row))] H → va_D A [(gP, .inr (1, [.ref aXs, .ref aYs, .ref aTk, .ref aOr, .int s_pn])), (aXs, .inl (cI, 20, .inl s_xs)), (aYs, .inl (cI, 20, .inl s_ys)), (aOr, .inl (cI, 20, .inl s_or)), (gO, .inr (2, [.ref aRow, .int s_on, .int s_fl])), (aRow, .inl (cI, 40, .inl s_row))] → va_S A s.heap H locs → ∀ (ls : Array Slot), lv_has ls 4 [(0, .ref gO), (1, .ref gP)] → W p l e (headSpec w_O_trace ({ frames := 3, cells := 0, slots := 0, locals := 77 } : Room)).room s m args below meth c H locs 0 0 (MQ below (QwV dC dI A [(gP, .inr (1, [.ref aXs, .ref aYs, .ref aTk, .ref aOr, .int s_pn])), (aXs, .inl (cI, 20, .inl s_xs)), (aYs, .inl (cI, 20, .inl s_ys)), (aOr, .inl (cI, 20, .inl s_or)), (gO, .inr (2, [.ref aRow, .int s_on', .int s_fl'])), (aRow, .inl (cI, 40, .inl s_row'))]) args s 0 0 A) (F0 m 0 ls []) := by
  obtain ⟨hx, hb, hr, hml, hts, hown, hlocks⟩ := id C0
  intro s_row s_on s_fl hf H locs hP hD hS ls hl
  refine lv_aload_n hx hb d_O_trace_0 rfl (lv_at hl 0 rfl) ?_
  refine lv_iconst (v := (0 : Int32)) hx hb d_O_trace_1 rfl ?_
  refine va_put (D := (dC, dI)) (ci := 2) (v := .int (0 : Int32)) (ty := .int) (C := R_O) (T := T_O) (N := 3) hx hb hts in_O ty_O tok_O nok_O hown hK.1 hP hD hS 4 rfl rfl 1 (by decide) (hts _ bw_46) (fun _ h9 => h9) rfl (by decide +kernel) rfl rfl (Nat.le_of_ble_eq_true rfl) d_O_trace_2 (fun H locs hP hD hS => ?_)
  have hP : va_P (dC, dI) vwCl [(gP, .inr (1, [.ref aXs, .ref aYs, .ref aTk, .ref aOr, .int s_pn])), (aXs, .inl (cI, 20, .inl s_xs)), (aYs, .inl (cI, 20, .inl s_ys)), (aOr, .inl (cI, 20, .inl s_or)), (gO, .inr (2, [.ref aRow, .int (0 : Int32), .int s_fl])), (aRow, .inl (cI, 40, .inl s_row))] H := hP
  have hD : va_D A [(gP, .inr (1, [.ref aXs, .ref aYs, .ref aTk, .ref aOr, .int s_pn])), (aXs, .inl (cI, 20, .inl s_xs)), (aYs, .inl (cI, 20, .inl s_ys)), (aOr, .inl (cI, 20, .inl s_or)), (gO, .inr (2, [.ref aRow, .int (0 : Int32), .int s_fl])), (aRow, .inl (cI, 40, .inl s_row))] := hD
  refine lv_aload_n hx hb d_O_trace_5 rfl (lv_at hl 0 rfl) ?_
  refine lv_aload_n hx hb d_O_trace_6 rfl (lv_at hl 1 rfl) ?_
  obtain ⟨r18, hv20, hf⟩ := o_b hf
  refine rc_i (va_runS (As := [.ref gP]) (rest := [.ref gO]) ⟨hx, hb, hml, hown, hts⟩ (c_O_allOnOneLine l dC dI cI cZ gP aXs aYs aTk aOr s_xs s_ys s_or s_pn r18 hv20) (va_cwS 1 hts (gd_S bw_173 bw_174 bw_3 bw_175) rfl rfl rfl hd_O_allOnOneLine ⟨Nat.le_of_ble_eq_true rfl, Nat.le_of_ble_eq_true rfl⟩) (ps_r (wc := [(gP, .inr (1, [.ref aXs, .ref aYs, .ref aTk, .ref aOr, .int s_pn])), (aXs, .inl (cI, 20, .inl s_xs)), (aYs, .inl (cI, 20, .inl s_ys)), (aOr, .inl (cI, 20, .inl s_or))]) hK hP [0, 1, 2, 3] rfl) rfl rfl hl.1 rfl (lv_room (Nat.le_of_ble_eq_true rfl)) d_O_trace_7 ⟨Nat.zero_le _, Nat.zero_le _⟩) ?_
  obtain ⟨hz21, hf⟩ := o_g hf
  refine va_put (D := (dC, dI)) (ci := 2) (v := .int r18) (ty := .boolean) (C := R_O) (T := T_O) (N := 3) hx hb hts in_O ty_O tok_O nok_O hown hK.1 hP hD hS 4 rfl rfl 2 (by decide) (hts _ bw_47) (fun _ h9 => h9) rfl (by decide +kernel) (z01_n hz21) (z01_f hz21) (Nat.le_of_ble_eq_true rfl) d_O_trace_10 (fun H locs hP hD hS => ?_)
  have hP : va_P (dC, dI) vwCl [(gP, .inr (1, [.ref aXs, .ref aYs, .ref aTk, .ref aOr, .int s_pn])), (aXs, .inl (cI, 20, .inl s_xs)), (aYs, .inl (cI, 20, .inl s_ys)), (aOr, .inl (cI, 20, .inl s_or)), (gO, .inr (2, [.ref aRow, .int (0 : Int32), .int r18])), (aRow, .inl (cI, 40, .inl s_row))] H := hP
  have hD : va_D A [(gP, .inr (1, [.ref aXs, .ref aYs, .ref aTk, .ref aOr, .int s_pn])), (aXs, .inl (cI, 20, .inl s_xs)), (aYs, .inl (cI, 20, .inl s_ys)), (aOr, .inl (cI, 20, .inl s_or)), (gO, .inr (2, [.ref aRow, .int (0 : Int32), .int r18])), (aRow, .inl (cI, 40, .inl s_row))] := hD
  refine lv_aload_n hx hb d_O_trace_13 rfl (lv_at hl 1 rfl) ?_
  obtain ⟨r22, hv24, hf⟩ := o_b hf
  refine rc_i (va_runV (As := []) (rest := []) ⟨hx, hb, hml, hown, hts⟩ (c_P_size l dC dI cI cZ gP aXs aYs aTk aOr s_pn r22 hv24) (cwV 0 hts (gd_V bw_176 bw_145 bw_146 bw_2 bw_147) rfl rfl rfl ⟨rfl, hd_P_size⟩ ⟨Nat.le_of_ble_eq_true rfl, Nat.le_of_ble_eq_true rfl⟩) (pv_r (wc := [(gP, .inr (1, [.ref aXs, .ref aYs, .ref aTk, .ref aOr, .int s_pn]))]) hK hP [0] rfl 0 (ci := 1) rfl rfl) rfl rfl hl.1 rfl (lv_room (Nat.le_of_ble_eq_true rfl)) d_O_trace_14 ⟨Nat.zero_le _, Nat.zero_le _⟩) ?_
  refine lv_iconst (v := (1 : Int32)) hx hb d_O_trace_17 rfl ?_
  refine lv_isub hx hb d_O_trace_18 ?_
  refine lv_istore_n (lv' := [(2, .int (r22 - (1 : Int32))), (0, .ref gO), (1, .ref gP)]) hx hb d_O_trace_19 rfl hl (by decide) rfl (fun ls hl => ?_)
  refine lv_iconst (v := (0 : Int32)) hx hb d_O_trace_20 rfl ?_
  refine lv_istore_n (lv' := [(3, .int (0 : Int32)), (2, .int (r22 - (1 : Int32))), (0, .ref gO), (1, .ref gP)]) hx hb d_O_trace_21 rfl hl (by decide) rfl (fun ls hl => ?_)
  exact t_O_trace_L22 C0 hK hA  600 s_row (0 : Int32) r18 (r22 - (1 : Int32)) (0 : Int32) hf _ _ hP hD hS ls (lv_sub hl [2, 3, 1, 0] rfl)
set_option maxHeartbeats 4000000 in
set_option maxRecDepth 100000 in
theorem c_O_trace (l : Launch) (dC : Nat → ClassId) (dI : Nat → Nat → Nat) (cI cZ : ClassId) (gP aXs aYs aTk aOr gO aRow : Nat) (s_xs : Nat → Int32) (s_ys : Nat → Int32) (s_or : Nat → Int32) (s_pn : Int32) (s_row : Nat → Int32) (s_on : Int32) (s_fl : Int32) (s_row' : Nat → Int32) (s_on' : Int32) (s_fl' : Int32) (sz : Nat) (hf : f_O_trace s_xs s_ys s_or s_pn s_row s_on s_fl = some (s_row', s_on', s_fl')) : Met l y_O_trace w_O_trace ({ frames := 3, cells := 0, slots := 0, locals := 77 } : Room) (PcW dC dI cI cZ [.ref gO, .ref gP] [(gP, .inr (1, [.ref aXs, .ref aYs, .ref aTk, .ref aOr, .int s_pn])), (aXs, .inl (cI, 20, .inl s_xs)), (aYs, .inl (cI, 20, .inl s_ys)), (aOr, .inl (cI, 20, .inl s_or)), (gO, .inr (2, [.ref aRow, .int s_on, .int s_fl])), (aRow, .inl (cI, 40, .inl s_row))] sz) (QwV dC dI (va_A [(gP, .inr (1, [.ref aXs, .ref aYs, .ref aTk, .ref aOr, .int s_pn])), (aXs, .inl (cI, 20, .inl s_xs)), (aYs, .inl (cI, 20, .inl s_ys)), (aOr, .inl (cI, 20, .inl s_or)), (gO, .inr (2, [.ref aRow, .int s_on, .int s_fl])), (aRow, .inl (cI, 40, .inl s_row))] sz) [(gP, .inr (1, [.ref aXs, .ref aYs, .ref aTk, .ref aOr, .int s_pn])), (aXs, .inl (cI, 20, .inl s_xs)), (aYs, .inl (cI, 20, .inl s_ys)), (aOr, .inl (cI, 20, .inl s_or)), (gO, .inr (2, [.ref aRow, .int s_on', .int s_fl'])), (aRow, .inl (cI, 40, .inl s_row'))]) 0 0 (va_A [(gP, .inr (1, [.ref aXs, .ref aYs, .ref aTk, .ref aOr, .int s_pn])), (aXs, .inl (cI, 20, .inl s_xs)), (aYs, .inl (cI, 20, .inl s_ys)), (aOr, .inl (cI, 20, .inl s_or)), (gO, .inr (2, [.ref aRow, .int s_on, .int s_fl])), (aRow, .inl (cI, 40, .inl s_row))] sz) := by
  refine Met.ofW (cc := b_O_trace) (maxL := 4) (ret := none) (by decide) rfl ?_
  intro p e s m args below meth c s₁ B hml hv
  obtain ⟨rfl, hsz, hP, hK, hD0⟩ := hv
  have C0 : cx p s m _ meth c b_O_trace none 4 R_O := ⟨B.exec, B.bytes, B.returns, hml, fun w hw => atoms_spec (ws := w_O_trace) B.pre w (List.mem_cons_of_mem _ hw), findClass_of_methodNamed B.named, B.notSynchronized⟩
  subst hsz
  have hD := hD0.self (sz := s.heap.size)
  generalize hAe : va_A [(gP, .inr (1, [.ref aXs, .ref aYs, .ref aTk, .ref aOr, .int s_pn])), (aXs, .inl (cI, 20, .inl s_xs)), (aYs, .inl (cI, 20, .inl s_ys)), (aOr, .inl (cI, 20, .inl s_or)), (gO, .inr (2, [.ref aRow, .int s_on, .int s_fl])), (aRow, .inl (cI, 40, .inl s_row))] s.heap.size = A at hD ⊢
  have hA : ∀ q : Nat, s.heap.size ≤ q → A q := fun q h => by rw [← hAe]; exact Or.inr h
  have hl := lv_entry ([.ref gO, .ref gP]) (n := 4) (Nat.le_of_ble_eq_true rfl)
  rw [lg_entry_eq]
  generalize (lg_sl ([.ref gO, .ref gP]) ++ List.replicate (4 - (lg_sl ([.ref gO, .ref gP])).length) Slot.unset).toArray = ls at hl ⊢
  have hl : lv_has ls 4 [(0, .ref gO), (1, .ref gP)] := hl
  exact t_O_trace_e C0 hK hA s_row s_on s_fl hf _ _ hP hD va_S.rf ls hl
set_option maxHeartbeats 4000000 in
set_option maxRecDepth 100000 in
theorem c_O_isFlat (l : Launch) (dC : Nat → ClassId) (dI : Nat → Nat → Nat) (cI cZ : ClassId) (gO aRow : Nat) (s_on : Int32) (s_fl : Int32) (rv : Int32) (hf : f_O_isFlat s_fl = some rv) : Met l y_O_isFlat w_O_isFlat ({ frames := 0, cells := 0, slots := 0, locals := 0 } : Room) (PcR dC dI cI cZ [.ref gO] [(gO, .inr (2, [.ref aRow, .int s_on, .int s_fl]))]) (vp_Si (fun r => r = rv)) 0 0 (fun _ => False) := by
  refine Met.ofW (cc := b_O_isFlat) (maxL := 1) (ret := (some .boolean)) (by decide) rfl ?_
  intro p e s m args below meth c s₁ B hml hv
  obtain ⟨rfl, hP, hK⟩ := hv
  have C0 : cx p s m _ meth c b_O_isFlat (some .boolean) 1 R_O := ⟨B.exec, B.bytes, B.returns, hml, fun w hw => atoms_spec (ws := w_O_isFlat) B.pre w (List.mem_cons_of_mem _ hw), findClass_of_methodNamed B.named, B.notSynchronized⟩
  obtain ⟨hx, hb, hr, hml, hts, hown, hlocks⟩ := id C0
  have hl := lv_entry ([.ref gO]) (n := 1) (Nat.le_of_ble_eq_true rfl)
  rw [lg_entry_eq]
  generalize (lg_sl ([.ref gO]) ++ List.replicate (1 - (lg_sl ([.ref gO])).length) Slot.unset).toArray = ls at hl ⊢
  have hl : lv_has ls 1 [(0, .ref gO)] := hl
  refine lv_aload_n hx hb d_O_isFlat_0 rfl (lv_at hl 0 rfl) ?_
  refine va_get (D := (dC, dI)) (ci := 2) (v := .int s_fl) (C := R_O) (T := T_O) (N := 3) hx hb hts in_O hown hK.1 hP 0 rfl rfl 2 (by decide) (hts _ bw_47) (fun _ h9 => h9) rfl d_O_isFlat_1 ?_
  obtain ⟨hz1, hf⟩ := o_g hf
  cases hf
  exact rr_z hx hb hr hlocks (z01_n hz1) d_O_isFlat_4
set_option maxHeartbeats 4000000 in
set_option maxRecDepth 100000 in
theorem c_O_size (l : Launch) (dC : Nat → ClassId) (dI : Nat → Nat → Nat) (cI cZ : ClassId) (gO aRow : Nat) (s_on : Int32) (s_fl : Int32) (rv : Int32) (hf : f_O_size s_on = some rv) : Met l y_O_size w_O_size ({ frames := 0, cells := 0, slots := 0, locals := 0 } : Room) (PcR dC dI cI cZ [.ref gO] [(gO, .inr (2, [.ref aRow, .int s_on, .int s_fl]))]) (vp_Si (fun r => r = rv)) 0 0 (fun _ => False) := by
  refine Met.ofW (cc := b_O_size) (maxL := 1) (ret := (some .int)) (by decide) rfl ?_
  intro p e s m args below meth c s₁ B hml hv
  obtain ⟨rfl, hP, hK⟩ := hv
  have C0 : cx p s m _ meth c b_O_size (some .int) 1 R_O := ⟨B.exec, B.bytes, B.returns, hml, fun w hw => atoms_spec (ws := w_O_size) B.pre w (List.mem_cons_of_mem _ hw), findClass_of_methodNamed B.named, B.notSynchronized⟩
  obtain ⟨hx, hb, hr, hml, hts, hown, hlocks⟩ := id C0
  have hl := lv_entry ([.ref gO]) (n := 1) (Nat.le_of_ble_eq_true rfl)
  rw [lg_entry_eq]
  generalize (lg_sl ([.ref gO]) ++ List.replicate (1 - (lg_sl ([.ref gO])).length) Slot.unset).toArray = ls at hl ⊢
  have hl : lv_has ls 1 [(0, .ref gO)] := hl
  refine lv_aload_n hx hb d_O_size_0 rfl (lv_at hl 0 rfl) ?_
  refine va_get (D := (dC, dI)) (ci := 2) (v := .int s_on) (C := R_O) (T := T_O) (N := 3) hx hb hts in_O hown hK.1 hP 0 rfl rfl 1 (by decide) (hts _ bw_46) (fun _ h9 => h9) rfl d_O_size_1 ?_
  cases hf
  exact rr_i hx hb hr hlocks d_O_size_4
set_option maxHeartbeats 4000000 in
set_option maxRecDepth 100000 in
theorem c_O_at (l : Launch) (dC : Nat → ClassId) (dI : Nat → Nat → Nat) (cI cZ : ClassId) (gO aRow : Nat) (s_row : Nat → Int32) (s_on : Int32) (s_fl : Int32) (x1 : Int32) (rv : Int32) (hf : f_O_at s_row x1 = some rv) : Met l y_O_at w_O_at ({ frames := 0, cells := 0, slots := 0, locals := 0 } : Room) (PcR dC dI cI cZ [.ref gO, .int x1] [(gO, .inr (2, [.ref aRow, .int s_on, .int s_fl])), (aRow, .inl (cI, 40, .inl s_row))]) (vp_Si (fun r => r = rv)) 0 0 (fun _ => False) := by
  refine Met.ofW (cc := b_O_at) (maxL := 2) (ret := (some .int)) (by decide) rfl ?_
  intro p e s m args below meth c s₁ B hml hv
  obtain ⟨rfl, hP, hK⟩ := hv
  have C0 : cx p s m _ meth c b_O_at (some .int) 2 R_O := ⟨B.exec, B.bytes, B.returns, hml, fun w hw => atoms_spec (ws := w_O_at) B.pre w (List.mem_cons_of_mem _ hw), findClass_of_methodNamed B.named, B.notSynchronized⟩
  obtain ⟨hx, hb, hr, hml, hts, hown, hlocks⟩ := id C0
  have hl := lv_entry ([.ref gO, .int x1]) (n := 2) (Nat.le_of_ble_eq_true rfl)
  rw [lg_entry_eq]
  generalize (lg_sl ([.ref gO, .int x1]) ++ List.replicate (2 - (lg_sl ([.ref gO, .int x1])).length) Slot.unset).toArray = ls at hl ⊢
  have hl : lv_has ls 2 [(0, .ref gO), (1, .int x1)] := hl
  refine lv_aload_n hx hb d_O_at_0 rfl (lv_at hl 0 rfl) ?_
  refine va_get (D := (dC, dI)) (ci := 2) (v := .ref aRow) (C := R_O) (T := T_O) (N := 3) hx hb hts in_O hown hK.1 hP 0 rfl rfl 0 (by decide) (hts _ bw_45) (fun _ h9 => h9) rfl d_O_at_1 ?_
  refine lv_iload_n hx hb d_O_at_4 rfl (lv_at hl 1 rfl) ?_
  obtain ⟨hi1, hf⟩ := o_i hf
  refine va_iald (cA := cI) (n := 40) (f := s_row) hx hb hK.1 hP 1 0 rfl rfl hi1 d_O_at_5 ?_
  cases hf
  exact rr_i hx hb hr hlocks d_O_at_6
