set_option maxHeartbeats 4000000 in
set_option maxRecDepth 100000 in
theorem t_M_link_e {p : Program} {l : Launch} {e : Env} {s : State} {m : MethodId} {args : Array Value} {below : List Frame} {meth : Method} {c : Code} {dC : Nat → ClassId} {dI : Nat → Nat → Nat} {cI cZ : ClassId} {gM aKe aFs aLi aWa aRi : Nat} {s_mn : Int32} {s_wn : Int32} {s_rn : Int32} {s_li' : Nat → Int32} {A : Nat → Prop} (C0 : cx p s m args meth c b_M_link none 3 R_M) (hK : gK dC dI cI cZ s) (hA : ∀ q, s.heap.size ≤ q → A q) : ∀ (s_li : Nat → Int32) (x1 : Int32) (x2 : Int32), f_M_link s_li x1 x2 = some s_li' → ∀ (H : Heap) (locs : List Loc), va_P (dC, dI) vwCl [(gM, .inr (3, [.ref aKe, .ref aFs, .int s_mn, .ref aLi, .ref aWa, .int s_wn, .ref aRi, .int s_rn])), (aLi, .inl (cI, 20, .inl s_li))] H → va_D A [(gM, .inr (3, [.ref aKe, .ref aFs, .int s_mn, .ref aLi, .ref aWa, .int s_wn, .ref aRi, .int s_rn])), (aLi, .inl (cI, 20, .inl s_li))] → va_S A s.heap H locs → ∀ (ls : Array Slot), lv_has ls 3 [(0, .ref gM), (1, .int x1), (2, .int x2)] → W p l e (headSpec w_M_link ({ frames := 0, cells := 0, slots := 0, locals := 0 } : Room)).room s m args below meth c H locs 0 0 (MQ below (QwV dC dI A [(gM, .inr (3, [.ref aKe, .ref aFs, .int s_mn, .ref aLi, .ref aWa, .int s_wn, .ref aRi, .int s_rn])), (aLi, .inl (cI, 20, .inl s_li'))]) args s 0 0 A) (F0 m 0 ls []) := by
  obtain ⟨hx, hb, hr, hml, hts, hown, hlocks⟩ := id C0
  intro s_li x1 x2 hf H locs hP hD hS ls hl
  refine lv_aload_n hx hb d_M_link_0 rfl (lv_at hl 0 rfl) ?_
  refine va_get (D := (dC, dI)) (ci := 3) (v := .ref aLi) (C := R_M) (T := T_M) (N := 8) hx hb hts in_M hown hK.1 hP 0 rfl rfl 3 (by decide) (hts _ bw_64) (fun _ h9 => h9) rfl d_M_link_1 ?_
  refine lv_iload_n hx hb d_M_link_4 rfl (lv_at hl 1 rfl) ?_
  refine lv_dup2_11 hx hb d_M_link_5 rfl rfl ?_
  obtain ⟨hi1, hf⟩ := o_i hf
  refine va_iald (cA := cI) (n := 20) (f := s_li) hx hb hK.1 hP 1 0 rfl rfl hi1 d_M_link_6 ?_
  refine lv_iconst (v := (1 : Int32)) hx hb d_M_link_7 rfl ?_
  refine lv_iload_n hx hb d_M_link_8 rfl (lv_at hl 2 rfl) ?_
  refine lv_ishl hx hb d_M_link_9 ?_
  refine lv_ior hx hb d_M_link_10 ?_
  obtain ⟨hi2, hf⟩ := o_i hf
  refine va_iast (cA := cI) (n := 20) (f := s_li) hx hb hK.1 hP hD hS 1 0 rfl rfl hi2 d_M_link_11 (fun H locs hP hD hS => ?_)
  have hP : va_P (dC, dI) vwCl [(gM, .inr (3, [.ref aKe, .ref aFs, .int s_mn, .ref aLi, .ref aWa, .int s_wn, .ref aRi, .int s_rn])), (aLi, .inl (cI, 20, .inl (upd s_li x1.toNatClampNeg ((s_li x1.toNatClampNeg) ||| ((1 : Int32) <<< (x2 &&& 31))))))] H := hP
  have hD : va_D A [(gM, .inr (3, [.ref aKe, .ref aFs, .int s_mn, .ref aLi, .ref aWa, .int s_wn, .ref aRi, .int s_rn])), (aLi, .inl (cI, 20, .inl (upd s_li x1.toNatClampNeg ((s_li x1.toNatClampNeg) ||| ((1 : Int32) <<< (x2 &&& 31))))))] := hD
  cases hf
  exact wr_v hx hb hr hlocks hP hD hS d_M_link_12
set_option maxHeartbeats 4000000 in
set_option maxRecDepth 100000 in
theorem c_M_link (l : Launch) (dC : Nat → ClassId) (dI : Nat → Nat → Nat) (cI cZ : ClassId) (gM aKe aFs aLi aWa aRi : Nat) (s_mn : Int32) (s_li : Nat → Int32) (s_wn : Int32) (s_rn : Int32) (x1 : Int32) (x2 : Int32) (s_li' : Nat → Int32) (sz : Nat) (hf : f_M_link s_li x1 x2 = some s_li') : Met l y_M_link w_M_link ({ frames := 0, cells := 0, slots := 0, locals := 0 } : Room) (PcW dC dI cI cZ [.ref gM, .int x1, .int x2] [(gM, .inr (3, [.ref aKe, .ref aFs, .int s_mn, .ref aLi, .ref aWa, .int s_wn, .ref aRi, .int s_rn])), (aLi, .inl (cI, 20, .inl s_li))] sz) (QwV dC dI (va_A [(gM, .inr (3, [.ref aKe, .ref aFs, .int s_mn, .ref aLi, .ref aWa, .int s_wn, .ref aRi, .int s_rn])), (aLi, .inl (cI, 20, .inl s_li))] sz) [(gM, .inr (3, [.ref aKe, .ref aFs, .int s_mn, .ref aLi, .ref aWa, .int s_wn, .ref aRi, .int s_rn])), (aLi, .inl (cI, 20, .inl s_li'))]) 0 0 (va_A [(gM, .inr (3, [.ref aKe, .ref aFs, .int s_mn, .ref aLi, .ref aWa, .int s_wn, .ref aRi, .int s_rn])), (aLi, .inl (cI, 20, .inl s_li))] sz) := by
  refine Met.ofW (cc := b_M_link) (maxL := 3) (ret := none) (by decide) rfl ?_
  intro p e s m args below meth c s₁ B hml hv
  obtain ⟨rfl, hsz, hP, hK, hD0⟩ := hv
  have C0 : cx p s m _ meth c b_M_link none 3 R_M := ⟨B.exec, B.bytes, B.returns, hml, fun w hw => atoms_spec (ws := w_M_link) B.pre w (List.mem_cons_of_mem _ hw), findClass_of_methodNamed B.named, B.notSynchronized⟩
  subst hsz
  have hD := hD0.self (sz := s.heap.size)
  generalize hAe : va_A [(gM, .inr (3, [.ref aKe, .ref aFs, .int s_mn, .ref aLi, .ref aWa, .int s_wn, .ref aRi, .int s_rn])), (aLi, .inl (cI, 20, .inl s_li))] s.heap.size = A at hD ⊢
  have hA : ∀ q : Nat, s.heap.size ≤ q → A q := fun q h => by rw [← hAe]; exact Or.inr h
  have hl := lv_entry ([.ref gM, .int x1, .int x2]) (n := 3) (Nat.le_of_ble_eq_true rfl)
  rw [lg_entry_eq]
  generalize (lg_sl ([.ref gM, .int x1, .int x2]) ++ List.replicate (3 - (lg_sl ([.ref gM, .int x1, .int x2])).length) Slot.unset).toArray = ls at hl ⊢
  have hl : lv_has ls 3 [(0, .ref gM), (1, .int x1), (2, .int x2)] := hl
  exact t_M_link_e C0 hK hA s_li x1 x2 hf _ _ hP hD va_S.rf ls hl
set_option maxHeartbeats 4000000 in
set_option maxRecDepth 100000 in
theorem t_M_linkLine_L2 {p : Program} {l : Launch} {e : Env} {s : State} {m : MethodId} {args : Array Value} {below : List Frame} {meth : Method} {c : Code} {dC : Nat → ClassId} {dI : Nat → Nat → Nat} {cI cZ : ClassId} {gO aRow gM aKe aFs aLi aWa aRi : Nat} {s_row : Nat → Int32} {s_on : Int32} {s_fl : Int32} {s_mn : Int32} {s_wn : Int32} {s_rn : Int32} {s_li' : Nat → Int32} {A : Nat → Prop} (C0 : cx p s m args meth c b_M_linkLine none 3 R_M) (hK : gK dC dI cI cZ s) (hA : ∀ q, s.heap.size ≤ q → A q) : ∀ (n : Nat) (s_li : Nat → Int32) (x2 : Int32), f_M_linkLine_L2 s_row s_on n s_li x2 = some s_li' → ∀ (H : Heap) (locs : List Loc), va_P (dC, dI) vwCl [(gO, .inr (2, [.ref aRow, .int s_on, .int s_fl])), (aRow, .inl (cI, 40, .inl s_row)), (gM, .inr (3, [.ref aKe, .ref aFs, .int s_mn, .ref aLi, .ref aWa, .int s_wn, .ref aRi, .int s_rn])), (aLi, .inl (cI, 20, .inl s_li))] H → va_D A [(gO, .inr (2, [.ref aRow, .int s_on, .int s_fl])), (aRow, .inl (cI, 40, .inl s_row)), (gM, .inr (3, [.ref aKe, .ref aFs, .int s_mn, .ref aLi, .ref aWa, .int s_wn, .ref aRi, .int s_rn])), (aLi, .inl (cI, 20, .inl s_li))] → va_S A s.heap H locs → ∀ (ls : Array Slot), lv_has ls 3 [(0, .ref gM), (1, .ref gO), (2, .int x2)] → W p l e (headSpec w_M_linkLine ({ frames := 1, cells := 0, slots := 0, locals := 22 } : Room)).room s m args below meth c H locs 0 0 (MQ below (QwV dC dI A [(gO, .inr (2, [.ref aRow, .int s_on, .int s_fl])), (aRow, .inl (cI, 40, .inl s_row)), (gM, .inr (3, [.ref aKe, .ref aFs, .int s_mn, .ref aLi, .ref aWa, .int s_wn, .ref aRi, .int s_rn])), (aLi, .inl (cI, 20, .inl s_li'))]) args s 0 0 A) (F0 m 2 ls []) := by
  obtain ⟨hx, hb, hr, hml, hts, hown, hlocks⟩ := id C0
  intro n
  induction n with
  | zero =>
    intro s_li x2 hf
    exact (o_n hf).elim
  | succ n ih =>
    intro s_li x2 hf H locs hP hD hS ls hl
    refine lv_iload_n hx hb d_M_linkLine_2 rfl (lv_at hl 2 rfl) ?_
    refine lv_aload_n hx hb d_M_linkLine_3 rfl (lv_at hl 1 rfl) ?_
    obtain ⟨r1, hv3, hf⟩ := o_b hf
    refine rc_i (va_runV (As := []) (rest := [.int x2]) ⟨hx, hb, hml, hown, hts⟩ (c_O_size l dC dI cI cZ gO aRow s_on s_fl r1 hv3) (cwV 0 hts (gd_V bw_211 bw_212 bw_213 bw_3 bw_214) rfl rfl rfl ⟨rfl, hd_O_size⟩ ⟨Nat.le_of_ble_eq_true rfl, Nat.le_of_ble_eq_true rfl⟩) (pv_r (wc := [(gO, .inr (2, [.ref aRow, .int s_on, .int s_fl]))]) hK hP [0] rfl 0 (ci := 2) rfl rfl) rfl rfl hl.1 rfl (lv_room (Nat.le_of_ble_eq_true rfl)) d_M_linkLine_4 ⟨Nat.zero_le _, Nat.zero_le _⟩) ?_
    refine lv_icmp_ge (tgt := 48) hx hb d_M_linkLine_7 (by decide) (fun hc4 => ?_) (fun hc4 => ?_)
    · have hf := o_t hf hc4
      cases hf
      exact wr_v hx hb hr hlocks hP hD hS d_M_linkLine_48
    · have hf := o_f hf hc4
      refine lv_aload_n hx hb d_M_linkLine_10 rfl (lv_at hl 0 rfl) ?_
      refine lv_aload_n hx hb d_M_linkLine_11 rfl (lv_at hl 1 rfl) ?_
      refine lv_iload_n hx hb d_M_linkLine_12 rfl (lv_at hl 2 rfl) ?_
      refine lv_iconst (v := (1 : Int32)) hx hb d_M_linkLine_13 rfl ?_
      refine lv_isub hx hb d_M_linkLine_14 ?_
      obtain ⟨r5, hv7, hf⟩ := o_b hf
      refine rc_i (va_runV (As := [.int (x2 - (1 : Int32))]) (rest := [.ref gM]) ⟨hx, hb, hml, hown, hts⟩ (c_O_at l dC dI cI cZ gO aRow s_row s_on s_fl (x2 - (1 : Int32)) r5 hv7) (cwV 1 hts (gd_V bw_215 bw_216 bw_217 bw_3 bw_218) rfl rfl rfl ⟨rfl, hd_O_at⟩ ⟨Nat.le_of_ble_eq_true rfl, Nat.le_of_ble_eq_true rfl⟩) (pv_r (wc := [(gO, .inr (2, [.ref aRow, .int s_on, .int s_fl])), (aRow, .inl (cI, 40, .inl s_row))]) hK hP [0, 1] rfl 0 (ci := 2) rfl rfl) rfl rfl hl.1 rfl (lv_room (Nat.le_of_ble_eq_true rfl)) d_M_linkLine_15 ⟨Nat.zero_le _, Nat.zero_le _⟩) ?_
      refine lv_aload_n hx hb d_M_linkLine_18 rfl (lv_at hl 1 rfl) ?_
      refine lv_iload_n hx hb d_M_linkLine_19 rfl (lv_at hl 2 rfl) ?_
      obtain ⟨r8, hv10, hf⟩ := o_b hf
      refine rc_i (va_runV (As := [.int x2]) (rest := [.int r5, .ref gM]) ⟨hx, hb, hml, hown, hts⟩ (c_O_at l dC dI cI cZ gO aRow s_row s_on s_fl x2 r8 hv10) (cwV 1 hts (gd_V bw_215 bw_216 bw_217 bw_3 bw_218) rfl rfl rfl ⟨rfl, hd_O_at⟩ ⟨Nat.le_of_ble_eq_true rfl, Nat.le_of_ble_eq_true rfl⟩) (pv_r (wc := [(gO, .inr (2, [.ref aRow, .int s_on, .int s_fl])), (aRow, .inl (cI, 40, .inl s_row))]) hK hP [0, 1] rfl 0 (ci := 2) rfl rfl) rfl rfl hl.1 rfl (lv_room (Nat.le_of_ble_eq_true rfl)) d_M_linkLine_20 ⟨Nat.zero_le _, Nat.zero_le _⟩) ?_
      obtain ⟨r11, hv13, hf⟩ := o_b hf
      refine wc_v (wr := [(gO, .inr (2, [.ref aRow, .int s_on, .int s_fl])), (aRow, .inl (cI, 40, .inl s_row))]) (w1 := [(gM, .inr (3, [.ref aKe, .ref aFs, .int s_mn, .ref aLi, .ref aWa, .int s_wn, .ref aRi, .int s_rn])), (aLi, .inl (cI, 20, .inl r11))]) (va_runV (As := [.int r5, .int r8]) (rest := []) ⟨hx, hb, hml, hown, hts⟩ (c_M_link l dC dI cI cZ gM aKe aFs aLi aWa aRi s_mn s_li s_wn s_rn r5 r8 r11 H.size hv13) (cwV 2 hts (gd_V bw_219 bw_221 bp_4 bw_4 bw_222) rfl rfl rfl ⟨rfl, hd_M_link⟩ ⟨Nat.le_of_ble_eq_true rfl, Nat.le_of_ble_eq_true rfl⟩) (pv_w (wc := [(gM, .inr (3, [.ref aKe, .ref aFs, .int s_mn, .ref aLi, .ref aWa, .int s_wn, .ref aRi, .int s_rn])), (aLi, .inl (cI, 20, .inl s_li))]) hK hP hD [2, 3] rfl rfl (by decide) 0 (ci := 3) rfl rfl) rfl rfl hl.1 rfl (lv_room (Nat.le_of_ble_eq_true rfl)) d_M_linkLine_23 ⟨Nat.zero_le _, Nat.zero_le _⟩) hP hD hS hA [2, 3] [0, 1] rfl rfl (by decide) (by decide) (fun H locs hP hD hS => ?_)
      have hP : va_P (dC, dI) vwCl [(gO, .inr (2, [.ref aRow, .int s_on, .int s_fl])), (aRow, .inl (cI, 40, .inl s_row)), (gM, .inr (3, [.ref aKe, .ref aFs, .int s_mn, .ref aLi, .ref aWa, .int s_wn, .ref aRi, .int s_rn])), (aLi, .inl (cI, 20, .inl r11))] H := hP.sub [0, 1, 2, 3] rfl
      have hD : va_D A [(gO, .inr (2, [.ref aRow, .int s_on, .int s_fl])), (aRow, .inl (cI, 40, .inl s_row)), (gM, .inr (3, [.ref aKe, .ref aFs, .int s_mn, .ref aLi, .ref aWa, .int s_wn, .ref aRi, .int s_rn])), (aLi, .inl (cI, 20, .inl r11))] := hD.sub [0, 1, 2, 3] (by decide) rfl
      refine lv_aload_n hx hb d_M_linkLine_26 rfl (lv_at hl 0 rfl) ?_
      refine lv_aload_n hx hb d_M_linkLine_27 rfl (lv_at hl 1 rfl) ?_
      refine lv_iload_n hx hb d_M_linkLine_28 rfl (lv_at hl 2 rfl) ?_
      obtain ⟨r14, hv16, hf⟩ := o_b hf
      refine rc_i (va_runV (As := [.int x2]) (rest := [.ref gM]) ⟨hx, hb, hml, hown, hts⟩ (c_O_at l dC dI cI cZ gO aRow s_row s_on s_fl x2 r14 hv16) (cwV 1 hts (gd_V bw_215 bw_216 bw_217 bw_3 bw_218) rfl rfl rfl ⟨rfl, hd_O_at⟩ ⟨Nat.le_of_ble_eq_true rfl, Nat.le_of_ble_eq_true rfl⟩) (pv_r (wc := [(gO, .inr (2, [.ref aRow, .int s_on, .int s_fl])), (aRow, .inl (cI, 40, .inl s_row))]) hK hP [0, 1] rfl 0 (ci := 2) rfl rfl) rfl rfl hl.1 rfl (lv_room (Nat.le_of_ble_eq_true rfl)) d_M_linkLine_29 ⟨Nat.zero_le _, Nat.zero_le _⟩) ?_
      refine lv_aload_n hx hb d_M_linkLine_32 rfl (lv_at hl 1 rfl) ?_
      refine lv_iload_n hx hb d_M_linkLine_33 rfl (lv_at hl 2 rfl) ?_
      refine lv_iconst (v := (1 : Int32)) hx hb d_M_linkLine_34 rfl ?_
      refine lv_isub hx hb d_M_linkLine_35 ?_
      obtain ⟨r17, hv19, hf⟩ := o_b hf
      refine rc_i (va_runV (As := [.int (x2 - (1 : Int32))]) (rest := [.int r14, .ref gM]) ⟨hx, hb, hml, hown, hts⟩ (c_O_at l dC dI cI cZ gO aRow s_row s_on s_fl (x2 - (1 : Int32)) r17 hv19) (cwV 1 hts (gd_V bw_215 bw_216 bw_217 bw_3 bw_218) rfl rfl rfl ⟨rfl, hd_O_at⟩ ⟨Nat.le_of_ble_eq_true rfl, Nat.le_of_ble_eq_true rfl⟩) (pv_r (wc := [(gO, .inr (2, [.ref aRow, .int s_on, .int s_fl])), (aRow, .inl (cI, 40, .inl s_row))]) hK hP [0, 1] rfl 0 (ci := 2) rfl rfl) rfl rfl hl.1 rfl (lv_room (Nat.le_of_ble_eq_true rfl)) d_M_linkLine_36 ⟨Nat.zero_le _, Nat.zero_le _⟩) ?_
      obtain ⟨r20, hv22, hf⟩ := o_b hf
      refine wc_v (wr := [(gO, .inr (2, [.ref aRow, .int s_on, .int s_fl])), (aRow, .inl (cI, 40, .inl s_row))]) (w1 := [(gM, .inr (3, [.ref aKe, .ref aFs, .int s_mn, .ref aLi, .ref aWa, .int s_wn, .ref aRi, .int s_rn])), (aLi, .inl (cI, 20, .inl r20))]) (va_runV (As := [.int r14, .int r17]) (rest := []) ⟨hx, hb, hml, hown, hts⟩ (c_M_link l dC dI cI cZ gM aKe aFs aLi aWa aRi s_mn r11 s_wn s_rn r14 r17 r20 H.size hv22) (cwV 2 hts (gd_V bw_219 bw_221 bp_4 bw_4 bw_222) rfl rfl rfl ⟨rfl, hd_M_link⟩ ⟨Nat.le_of_ble_eq_true rfl, Nat.le_of_ble_eq_true rfl⟩) (pv_w (wc := [(gM, .inr (3, [.ref aKe, .ref aFs, .int s_mn, .ref aLi, .ref aWa, .int s_wn, .ref aRi, .int s_rn])), (aLi, .inl (cI, 20, .inl r11))]) hK hP hD [2, 3] rfl rfl (by decide) 0 (ci := 3) rfl rfl) rfl rfl hl.1 rfl (lv_room (Nat.le_of_ble_eq_true rfl)) d_M_linkLine_39 ⟨Nat.zero_le _, Nat.zero_le _⟩) hP hD hS hA [2, 3] [0, 1] rfl rfl (by decide) (by decide) (fun H locs hP hD hS => ?_)
      have hP : va_P (dC, dI) vwCl [(gO, .inr (2, [.ref aRow, .int s_on, .int s_fl])), (aRow, .inl (cI, 40, .inl s_row)), (gM, .inr (3, [.ref aKe, .ref aFs, .int s_mn, .ref aLi, .ref aWa, .int s_wn, .ref aRi, .int s_rn])), (aLi, .inl (cI, 20, .inl r20))] H := hP.sub [0, 1, 2, 3] rfl
      have hD : va_D A [(gO, .inr (2, [.ref aRow, .int s_on, .int s_fl])), (aRow, .inl (cI, 40, .inl s_row)), (gM, .inr (3, [.ref aKe, .ref aFs, .int s_mn, .ref aLi, .ref aWa, .int s_wn, .ref aRi, .int s_rn])), (aLi, .inl (cI, 20, .inl r20))] := hD.sub [0, 1, 2, 3] (by decide) rfl
      refine lv_iinc (v := (x2 + 1)) (lv' := [(2, .int (x2 + 1)), (0, .ref gM), (1, .ref gO)]) hx hb d_M_linkLine_42 hl (k := 2) rfl rfl (by decide) rfl (fun ls hl => ?_)
      refine lv_goto (tgt := 2) hx hb d_M_linkLine_45 (by decide) ?_
      exact ih r20 (x2 + 1) hf _ _ hP hD hS ls (lv_sub hl [1, 2, 0] rfl)
set_option maxHeartbeats 4000000 in
set_option maxRecDepth 100000 in
theorem t_M_linkLine_e {p : Program} {l : Launch} {e : Env} {s : State} {m : MethodId} {args : Array Value} {below : List Frame} {meth : Method} {c : Code} {dC : Nat → ClassId} {dI : Nat → Nat → Nat} {cI cZ : ClassId} {gO aRow gM aKe aFs aLi aWa aRi : Nat} {s_row : Nat → Int32} {s_on : Int32} {s_fl : Int32} {s_mn : Int32} {s_wn : Int32} {s_rn : Int32} {s_li' : Nat → Int32} {A : Nat → Prop} (C0 : cx p s m args meth c b_M_linkLine none 3 R_M) (hK : gK dC dI cI cZ s) (hA : ∀ q, s.heap.size ≤ q → A q) : ∀ (s_li : Nat → Int32), f_M_linkLine s_row s_on s_li = some s_li' → ∀ (H : Heap) (locs : List Loc), va_P (dC, dI) vwCl [(gO, .inr (2, [.ref aRow, .int s_on, .int s_fl])), (aRow, .inl (cI, 40, .inl s_row)), (gM, .inr (3, [.ref aKe, .ref aFs, .int s_mn, .ref aLi, .ref aWa, .int s_wn, .ref aRi, .int s_rn])), (aLi, .inl (cI, 20, .inl s_li))] H → va_D A [(gO, .inr (2, [.ref aRow, .int s_on, .int s_fl])), (aRow, .inl (cI, 40, .inl s_row)), (gM, .inr (3, [.ref aKe, .ref aFs, .int s_mn, .ref aLi, .ref aWa, .int s_wn, .ref aRi, .int s_rn])), (aLi, .inl (cI, 20, .inl s_li))] → va_S A s.heap H locs → ∀ (ls : Array Slot), lv_has ls 3 [(0, .ref gM), (1, .ref gO)] → W p l e (headSpec w_M_linkLine ({ frames := 1, cells := 0, slots := 0, locals := 22 } : Room)).room s m args below meth c H locs 0 0 (MQ below (QwV dC dI A [(gO, .inr (2, [.ref aRow, .int s_on, .int s_fl])), (aRow, .inl (cI, 40, .inl s_row)), (gM, .inr (3, [.ref aKe, .ref aFs, .int s_mn, .ref aLi, .ref aWa, .int s_wn, .ref aRi, .int s_rn])), (aLi, .inl (cI, 20, .inl s_li'))]) args s 0 0 A) (F0 m 0 ls []) := by
  obtain ⟨hx, hb, hr, hml, hts, hown, hlocks⟩ := id C0
  intro s_li hf H locs hP hD hS ls hl
  refine lv_iconst (v := (1 : Int32)) hx hb d_M_linkLine_0 rfl ?_
  refine lv_istore_n (lv' := [(2, .int (1 : Int32)), (0, .ref gM), (1, .ref gO)]) hx hb d_M_linkLine_1 rfl hl (by decide) rfl (fun ls hl => ?_)
  exact t_M_linkLine_L2 C0 hK hA  600 s_li (1 : Int32) hf _ _ hP hD hS ls (lv_sub hl [1, 2, 0] rfl)
set_option maxHeartbeats 4000000 in
set_option maxRecDepth 100000 in
theorem c_M_linkLine (l : Launch) (dC : Nat → ClassId) (dI : Nat → Nat → Nat) (cI cZ : ClassId) (gO aRow gM aKe aFs aLi aWa aRi : Nat) (s_row : Nat → Int32) (s_on : Int32) (s_fl : Int32) (s_mn : Int32) (s_li : Nat → Int32) (s_wn : Int32) (s_rn : Int32) (s_li' : Nat → Int32) (sz : Nat) (hf : f_M_linkLine s_row s_on s_li = some s_li') : Met l y_M_linkLine w_M_linkLine ({ frames := 1, cells := 0, slots := 0, locals := 22 } : Room) (PcW dC dI cI cZ [.ref gM, .ref gO] [(gO, .inr (2, [.ref aRow, .int s_on, .int s_fl])), (aRow, .inl (cI, 40, .inl s_row)), (gM, .inr (3, [.ref aKe, .ref aFs, .int s_mn, .ref aLi, .ref aWa, .int s_wn, .ref aRi, .int s_rn])), (aLi, .inl (cI, 20, .inl s_li))] sz) (QwV dC dI (va_A [(gO, .inr (2, [.ref aRow, .int s_on, .int s_fl])), (aRow, .inl (cI, 40, .inl s_row)), (gM, .inr (3, [.ref aKe, .ref aFs, .int s_mn, .ref aLi, .ref aWa, .int s_wn, .ref aRi, .int s_rn])), (aLi, .inl (cI, 20, .inl s_li))] sz) [(gO, .inr (2, [.ref aRow, .int s_on, .int s_fl])), (aRow, .inl (cI, 40, .inl s_row)), (gM, .inr (3, [.ref aKe, .ref aFs, .int s_mn, .ref aLi, .ref aWa, .int s_wn, .ref aRi, .int s_rn])), (aLi, .inl (cI, 20, .inl s_li'))]) 0 0 (va_A [(gO, .inr (2, [.ref aRow, .int s_on, .int s_fl])), (aRow, .inl (cI, 40, .inl s_row)), (gM, .inr (3, [.ref aKe, .ref aFs, .int s_mn, .ref aLi, .ref aWa, .int s_wn, .ref aRi, .int s_rn])), (aLi, .inl (cI, 20, .inl s_li))] sz) := by
  refine Met.ofW (cc := b_M_linkLine) (maxL := 3) (ret := none) (by decide) rfl ?_
  intro p e s m args below meth c s₁ B hml hv
  obtain ⟨rfl, hsz, hP, hK, hD0⟩ := hv
  have C0 : cx p s m _ meth c b_M_linkLine none 3 R_M := ⟨B.exec, B.bytes, B.returns, hml, fun w hw => atoms_spec (ws := w_M_linkLine) B.pre w (List.mem_cons_of_mem _ hw), findClass_of_methodNamed B.named, B.notSynchronized⟩
  subst hsz
  have hD := hD0.self (sz := s.heap.size)
  generalize hAe : va_A [(gO, .inr (2, [.ref aRow, .int s_on, .int s_fl])), (aRow, .inl (cI, 40, .inl s_row)), (gM, .inr (3, [.ref aKe, .ref aFs, .int s_mn, .ref aLi, .ref aWa, .int s_wn, .ref aRi, .int s_rn])), (aLi, .inl (cI, 20, .inl s_li))] s.heap.size = A at hD ⊢
  have hA : ∀ q : Nat, s.heap.size ≤ q → A q := fun q h => by rw [← hAe]; exact Or.inr h
  have hl := lv_entry ([.ref gM, .ref gO]) (n := 3) (Nat.le_of_ble_eq_true rfl)
  rw [lg_entry_eq]
  generalize (lg_sl ([.ref gM, .ref gO]) ++ List.replicate (3 - (lg_sl ([.ref gM, .ref gO])).length) Slot.unset).toArray = ls at hl ⊢
  have hl : lv_has ls 3 [(0, .ref gM), (1, .ref gO)] := hl
  exact t_M_linkLine_e C0 hK hA s_li hf _ _ hP hD va_S.rf ls hl
set_option maxHeartbeats 4000000 in
set_option maxRecDepth 100000 in
theorem t_M_await_e {p : Program} {l : Launch} {e : Env} {s : State} {m : MethodId} {args : Array Value} {below : List Frame} {meth : Method} {c : Code} {dC : Nat → ClassId} {dI : Nat → Nat → Nat} {cI cZ : ClassId} {gM aKe aFs aLi aWa aRi : Nat} {s_mn : Int32} {s_rn : Int32} {s_wa' : Nat → Int32} {s_wn' : Int32} {A : Nat → Prop} (C0 : cx p s m args meth c b_M_await none 3 R_M) (hK : gK dC dI cI cZ s) (hA : ∀ q, s.heap.size ≤ q → A q) : ∀ (s_wa : Nat → Int32) (s_wn : Int32) (x1 : Int32) (x2 : Int32), f_M_await s_wa s_wn x1 x2 = some (s_wa', s_wn') → ∀ (H : Heap) (locs : List Loc), va_P (dC, dI) vwCl [(gM, .inr (3, [.ref aKe, .ref aFs, .int s_mn, .ref aLi, .ref aWa, .int s_wn, .ref aRi, .int s_rn])), (aWa, .inl (cI, 54, .inl s_wa))] H → va_D A [(gM, .inr (3, [.ref aKe, .ref aFs, .int s_mn, .ref aLi, .ref aWa, .int s_wn, .ref aRi, .int s_rn])), (aWa, .inl (cI, 54, .inl s_wa))] → va_S A s.heap H locs → ∀ (ls : Array Slot), lv_has ls 3 [(0, .ref gM), (1, .int x1), (2, .int x2)] → W p l e (headSpec w_M_await ({ frames := 0, cells := 0, slots := 0, locals := 0 } : Room)).room s m args below meth c H locs 0 0 (MQ below (QwV dC dI A [(gM, .inr (3, [.ref aKe, .ref aFs, .int s_mn, .ref aLi, .ref aWa, .int s_wn', .ref aRi, .int s_rn])), (aWa, .inl (cI, 54, .inl s_wa'))]) args s 0 0 A) (F0 m 0 ls []) := by
  obtain ⟨hx, hb, hr, hml, hts, hown, hlocks⟩ := id C0
  intro s_wa s_wn x1 x2 hf H locs hP hD hS ls hl
  refine lv_aload_n hx hb d_M_await_0 rfl (lv_at hl 0 rfl) ?_
  refine va_get (D := (dC, dI)) (ci := 3) (v := .int s_wn) (C := R_M) (T := T_M) (N := 8) hx hb hts in_M hown hK.1 hP 0 rfl rfl 5 (by decide) (hts _ bw_66) (fun _ h9 => h9) rfl d_M_await_1 ?_
  refine lv_bipush (v := (54 : Int32)) hx hb d_M_await_4 rfl ?_
  refine lv_icmp_ge (tgt := 33) hx hb d_M_await_6 (by decide) (fun hc1 => ?_) (fun hc1 => ?_)
  · have hf := o_t hf hc1
    cases hf
    exact wr_v hx hb hr hlocks hP hD hS d_M_await_33
  · have hf := o_f hf hc1
    refine lv_aload_n hx hb d_M_await_9 rfl (lv_at hl 0 rfl) ?_
    refine va_get (D := (dC, dI)) (ci := 3) (v := .ref aWa) (C := R_M) (T := T_M) (N := 8) hx hb hts in_M hown hK.1 hP 0 rfl rfl 4 (by decide) (hts _ bw_65) (fun _ h9 => h9) rfl d_M_await_10 ?_
    refine lv_aload_n hx hb d_M_await_13 rfl (lv_at hl 0 rfl) ?_
    refine va_get (D := (dC, dI)) (ci := 3) (v := .int s_wn) (C := R_M) (T := T_M) (N := 8) hx hb hts in_M hown hK.1 hP 0 rfl rfl 5 (by decide) (hts _ bw_66) (fun _ h9 => h9) rfl d_M_await_14 ?_
    refine lv_iload_n hx hb d_M_await_17 rfl (lv_at hl 1 rfl) ?_
    refine lv_iconst (v := (5 : Int32)) hx hb d_M_await_18 rfl ?_
    refine lv_ishl hx hb d_M_await_19 ?_
    refine lv_iload_n hx hb d_M_await_20 rfl (lv_at hl 2 rfl) ?_
    refine lv_ior hx hb d_M_await_21 ?_
    obtain ⟨hi2, hf⟩ := o_i hf
    refine va_iast (cA := cI) (n := 54) (f := s_wa) hx hb hK.1 hP hD hS 1 0 rfl rfl hi2 d_M_await_22 (fun H locs hP hD hS => ?_)
    have hP : va_P (dC, dI) vwCl [(gM, .inr (3, [.ref aKe, .ref aFs, .int s_mn, .ref aLi, .ref aWa, .int s_wn, .ref aRi, .int s_rn])), (aWa, .inl (cI, 54, .inl (upd s_wa s_wn.toNatClampNeg ((x1 <<< ((5 : Int32) &&& 31)) ||| x2))))] H := hP
    have hD : va_D A [(gM, .inr (3, [.ref aKe, .ref aFs, .int s_mn, .ref aLi, .ref aWa, .int s_wn, .ref aRi, .int s_rn])), (aWa, .inl (cI, 54, .inl (upd s_wa s_wn.toNatClampNeg ((x1 <<< ((5 : Int32) &&& 31)) ||| x2))))] := hD
    refine lv_aload_n hx hb d_M_await_23 rfl (lv_at hl 0 rfl) ?_
    refine lv_dup hx hb d_M_await_24 rfl ?_
    refine va_get (D := (dC, dI)) (ci := 3) (v := .int s_wn) (C := R_M) (T := T_M) (N := 8) hx hb hts in_M hown hK.1 hP 0 rfl rfl 5 (by decide) (hts _ bw_66) (fun _ h9 => h9) rfl d_M_await_25 ?_
    refine lv_iconst (v := (1 : Int32)) hx hb d_M_await_28 rfl ?_
    refine lv_iadd hx hb d_M_await_29 ?_
    refine va_put (D := (dC, dI)) (ci := 3) (v := .int (s_wn + (1 : Int32))) (ty := .int) (C := R_M) (T := T_M) (N := 8) hx hb hts in_M ty_M tok_M nok_M hown hK.1 hP hD hS 0 rfl rfl 5 (by decide) (hts _ bw_66) (fun _ h9 => h9) rfl (by decide +kernel) rfl rfl (Nat.le_of_ble_eq_true rfl) d_M_await_30 (fun H locs hP hD hS => ?_)
    have hP : va_P (dC, dI) vwCl [(gM, .inr (3, [.ref aKe, .ref aFs, .int s_mn, .ref aLi, .ref aWa, .int (s_wn + (1 : Int32)), .ref aRi, .int s_rn])), (aWa, .inl (cI, 54, .inl (upd s_wa s_wn.toNatClampNeg ((x1 <<< ((5 : Int32) &&& 31)) ||| x2))))] H := hP
    have hD : va_D A [(gM, .inr (3, [.ref aKe, .ref aFs, .int s_mn, .ref aLi, .ref aWa, .int (s_wn + (1 : Int32)), .ref aRi, .int s_rn])), (aWa, .inl (cI, 54, .inl (upd s_wa s_wn.toNatClampNeg ((x1 <<< ((5 : Int32) &&& 31)) ||| x2))))] := hD
    cases hf
    exact wr_v hx hb hr hlocks hP hD hS d_M_await_33
set_option maxHeartbeats 4000000 in
set_option maxRecDepth 100000 in
theorem c_M_await (l : Launch) (dC : Nat → ClassId) (dI : Nat → Nat → Nat) (cI cZ : ClassId) (gM aKe aFs aLi aWa aRi : Nat) (s_mn : Int32) (s_wa : Nat → Int32) (s_wn : Int32) (s_rn : Int32) (x1 : Int32) (x2 : Int32) (s_wa' : Nat → Int32) (s_wn' : Int32) (sz : Nat) (hf : f_M_await s_wa s_wn x1 x2 = some (s_wa', s_wn')) : Met l y_M_await w_M_await ({ frames := 0, cells := 0, slots := 0, locals := 0 } : Room) (PcW dC dI cI cZ [.ref gM, .int x1, .int x2] [(gM, .inr (3, [.ref aKe, .ref aFs, .int s_mn, .ref aLi, .ref aWa, .int s_wn, .ref aRi, .int s_rn])), (aWa, .inl (cI, 54, .inl s_wa))] sz) (QwV dC dI (va_A [(gM, .inr (3, [.ref aKe, .ref aFs, .int s_mn, .ref aLi, .ref aWa, .int s_wn, .ref aRi, .int s_rn])), (aWa, .inl (cI, 54, .inl s_wa))] sz) [(gM, .inr (3, [.ref aKe, .ref aFs, .int s_mn, .ref aLi, .ref aWa, .int s_wn', .ref aRi, .int s_rn])), (aWa, .inl (cI, 54, .inl s_wa'))]) 0 0 (va_A [(gM, .inr (3, [.ref aKe, .ref aFs, .int s_mn, .ref aLi, .ref aWa, .int s_wn, .ref aRi, .int s_rn])), (aWa, .inl (cI, 54, .inl s_wa))] sz) := by
  refine Met.ofW (cc := b_M_await) (maxL := 3) (ret := none) (by decide) rfl ?_
  intro p e s m args below meth c s₁ B hml hv
  obtain ⟨rfl, hsz, hP, hK, hD0⟩ := hv
  have C0 : cx p s m _ meth c b_M_await none 3 R_M := ⟨B.exec, B.bytes, B.returns, hml, fun w hw => atoms_spec (ws := w_M_await) B.pre w (List.mem_cons_of_mem _ hw), findClass_of_methodNamed B.named, B.notSynchronized⟩
  subst hsz
  have hD := hD0.self (sz := s.heap.size)
  generalize hAe : va_A [(gM, .inr (3, [.ref aKe, .ref aFs, .int s_mn, .ref aLi, .ref aWa, .int s_wn, .ref aRi, .int s_rn])), (aWa, .inl (cI, 54, .inl s_wa))] s.heap.size = A at hD ⊢
  have hA : ∀ q : Nat, s.heap.size ≤ q → A q := fun q h => by rw [← hAe]; exact Or.inr h
  have hl := lv_entry ([.ref gM, .int x1, .int x2]) (n := 3) (Nat.le_of_ble_eq_true rfl)
  rw [lg_entry_eq]
  generalize (lg_sl ([.ref gM, .int x1, .int x2]) ++ List.replicate (3 - (lg_sl ([.ref gM, .int x1, .int x2])).length) Slot.unset).toArray = ls at hl ⊢
  have hl : lv_has ls 3 [(0, .ref gM), (1, .int x1), (2, .int x2)] := hl
  exact t_M_await_e C0 hK hA s_wa s_wn x1 x2 hf _ _ hP hD va_S.rf ls hl
set_option maxHeartbeats 4000000 in
set_option maxRecDepth 100000 in
theorem t_M_awaitOutline_L13 {p : Program} {l : Launch} {e : Env} {s : State} {m : MethodId} {args : Array Value} {below : List Frame} {meth : Method} {c : Code} {dC : Nat → ClassId} {dI : Nat → Nat → Nat} {cI cZ : ClassId} {gO aRow gM aKe aFs aLi aWa aRi : Nat} {s_row : Nat → Int32} {s_on : Int32} {s_fl : Int32} {s_mn : Int32} {s_rn : Int32} {s_li' : Nat → Int32} {s_wa' : Nat → Int32} {s_wn' : Int32} {A : Nat → Prop} (C0 : cx p s m args meth c b_M_awaitOutline none 5 R_M) (hK : gK dC dI cI cZ s) (hA : ∀ q, s.heap.size ≤ q → A q) : ∀ (n : Nat) (s_li : Nat → Int32) (s_wa : Nat → Int32) (s_wn : Int32) (x2 : Int32) (x3 : Int32), f_M_awaitOutline_L13 s_row s_on n s_li s_wa s_wn x2 x3 = some (s_li', s_wa', s_wn') → ∀ (H : Heap) (locs : List Loc), va_P (dC, dI) vwCl [(gO, .inr (2, [.ref aRow, .int s_on, .int s_fl])), (aRow, .inl (cI, 40, .inl s_row)), (gM, .inr (3, [.ref aKe, .ref aFs, .int s_mn, .ref aLi, .ref aWa, .int s_wn, .ref aRi, .int s_rn])), (aLi, .inl (cI, 20, .inl s_li)), (aWa, .inl (cI, 54, .inl s_wa))] H → va_D A [(gO, .inr (2, [.ref aRow, .int s_on, .int s_fl])), (aRow, .inl (cI, 40, .inl s_row)), (gM, .inr (3, [.ref aKe, .ref aFs, .int s_mn, .ref aLi, .ref aWa, .int s_wn, .ref aRi, .int s_rn])), (aLi, .inl (cI, 20, .inl s_li)), (aWa, .inl (cI, 54, .inl s_wa))] → va_S A s.heap H locs → ∀ (ls : Array Slot), lv_has ls 5 [(0, .ref gM), (1, .ref gO), (2, .int x2), (3, .int x3)] → W p l e (headSpec w_M_awaitOutline ({ frames := 1, cells := 0, slots := 0, locals := 22 } : Room)).room s m args below meth c H locs 0 0 (MQ below (QwV dC dI A [(gO, .inr (2, [.ref aRow, .int s_on, .int s_fl])), (aRow, .inl (cI, 40, .inl s_row)), (gM, .inr (3, [.ref aKe, .ref aFs, .int s_mn, .ref aLi, .ref aWa, .int s_wn', .ref aRi, .int s_rn])), (aLi, .inl (cI, 20, .inl s_li')), (aWa, .inl (cI, 54, .inl s_wa'))]) args s 0 0 A) (F0 m 13 ls []) := by
  obtain ⟨hx, hb, hr, hml, hts, hown, hlocks⟩ := id C0
  intro n
  induction n with
  | zero =>
    intro s_li s_wa s_wn x2 x3 hf
    exact (o_n hf).elim
  | succ n ih =>
    intro s_li s_wa s_wn x2 x3 hf H locs hP hD hS ls hl
    refine lv_iload_n hx hb d_M_awaitOutline_13 rfl (lv_at hl 3 rfl) ?_
    refine lv_aload_n hx hb d_M_awaitOutline_14 rfl (lv_at hl 1 rfl) ?_
    obtain ⟨r1, hv3, hf⟩ := o_b hf
    refine rc_i (va_runV (As := []) (rest := [.int x3]) ⟨hx, hb, hml, hown, hts⟩ (c_O_size l dC dI cI cZ gO aRow s_on s_fl r1 hv3) (cwV 0 hts (gd_V bw_211 bw_212 bw_213 bw_3 bw_214) rfl rfl rfl ⟨rfl, hd_O_size⟩ ⟨Nat.le_of_ble_eq_true rfl, Nat.le_of_ble_eq_true rfl⟩) (pv_r (wc := [(gO, .inr (2, [.ref aRow, .int s_on, .int s_fl]))]) hK hP [0] rfl 0 (ci := 2) rfl rfl) rfl rfl hl.1 rfl (lv_room (Nat.le_of_ble_eq_true rfl)) d_M_awaitOutline_15 ⟨Nat.zero_le _, Nat.zero_le _⟩) ?_
    refine lv_icmp_ge (tgt := 51) hx hb d_M_awaitOutline_18 (by decide) (fun hc4 => ?_) (fun hc4 => ?_)
    · have hf := o_t hf hc4
      cases hf
      exact wr_v hx hb hr hlocks hP hD hS d_M_awaitOutline_51
    · have hf := o_f hf hc4
      refine lv_aload_n hx hb d_M_awaitOutline_21 rfl (lv_at hl 1 rfl) ?_
      refine lv_iload_n hx hb d_M_awaitOutline_22 rfl (lv_at hl 3 rfl) ?_
      obtain ⟨r5, hv7, hf⟩ := o_b hf
      refine rc_i (va_runV (As := [.int x3]) (rest := []) ⟨hx, hb, hml, hown, hts⟩ (c_O_at l dC dI cI cZ gO aRow s_row s_on s_fl x3 r5 hv7) (cwV 1 hts (gd_V bw_215 bw_216 bw_217 bw_3 bw_218) rfl rfl rfl ⟨rfl, hd_O_at⟩ ⟨Nat.le_of_ble_eq_true rfl, Nat.le_of_ble_eq_true rfl⟩) (pv_r (wc := [(gO, .inr (2, [.ref aRow, .int s_on, .int s_fl])), (aRow, .inl (cI, 40, .inl s_row))]) hK hP [0, 1] rfl 0 (ci := 2) rfl rfl) rfl rfl hl.1 rfl (lv_room (Nat.le_of_ble_eq_true rfl)) d_M_awaitOutline_23 ⟨Nat.zero_le _, Nat.zero_le _⟩) ?_
      refine lv_istore (lv' := [(4, .int r5), (0, .ref gM), (1, .ref gO), (2, .int x2), (3, .int x3)]) hx hb d_M_awaitOutline_26 hl (by decide) rfl (fun ls hl => ?_)
      refine lv_aload_n hx hb d_M_awaitOutline_28 rfl (lv_at hl 1 rfl) ?_
      refine lv_iload hx hb d_M_awaitOutline_29 (lv_at hl 0 rfl) ?_
      refine lv_iload_n hx hb d_M_awaitOutline_31 rfl (lv_at hl 3 rfl) ?_
      obtain ⟨r8, hv10, hf⟩ := o_b hf
      refine wc_v (wr := [(gO, .inr (2, [.ref aRow, .int s_on, .int s_fl])), (aRow, .inl (cI, 40, .inl s_row)), (aWa, .inl (cI, 54, .inl s_wa))]) (w1 := [(gM, .inr (3, [.ref aKe, .ref aFs, .int s_mn, .ref aLi, .ref aWa, .int s_wn, .ref aRi, .int s_rn])), (aLi, .inl (cI, 20, .inl r8))]) (va_runV (As := [.int r5, .int x2]) (rest := []) ⟨hx, hb, hml, hown, hts⟩ (c_M_link l dC dI cI cZ gM aKe aFs aLi aWa aRi s_mn s_li s_wn s_rn r5 x2 r8 H.size hv10) (cwV 2 hts (gd_V bw_219 bw_221 bp_4 bw_4 bw_222) rfl rfl rfl ⟨rfl, hd_M_link⟩ ⟨Nat.le_of_ble_eq_true rfl, Nat.le_of_ble_eq_true rfl⟩) (pv_w (wc := [(gM, .inr (3, [.ref aKe, .ref aFs, .int s_mn, .ref aLi, .ref aWa, .int s_wn, .ref aRi, .int s_rn])), (aLi, .inl (cI, 20, .inl s_li))]) hK hP hD [2, 3] rfl rfl (by decide) 0 (ci := 3) rfl rfl) rfl rfl hl.1 rfl (lv_room (Nat.le_of_ble_eq_true rfl)) d_M_awaitOutline_32 ⟨Nat.zero_le _, Nat.zero_le _⟩) hP hD hS hA [2, 3] [0, 1, 4] rfl rfl (by decide) (by decide) (fun H locs hP hD hS => ?_)
      have hP : va_P (dC, dI) vwCl [(gO, .inr (2, [.ref aRow, .int s_on, .int s_fl])), (aRow, .inl (cI, 40, .inl s_row)), (gM, .inr (3, [.ref aKe, .ref aFs, .int s_mn, .ref aLi, .ref aWa, .int s_wn, .ref aRi, .int s_rn])), (aLi, .inl (cI, 20, .inl r8)), (aWa, .inl (cI, 54, .inl s_wa))] H := hP.sub [0, 1, 3, 4, 2] rfl
      have hD : va_D A [(gO, .inr (2, [.ref aRow, .int s_on, .int s_fl])), (aRow, .inl (cI, 40, .inl s_row)), (gM, .inr (3, [.ref aKe, .ref aFs, .int s_mn, .ref aLi, .ref aWa, .int s_wn, .ref aRi, .int s_rn])), (aLi, .inl (cI, 20, .inl r8)), (aWa, .inl (cI, 54, .inl s_wa))] := hD.sub [0, 1, 3, 4, 2] (by decide) rfl
      refine lv_aload_n hx hb d_M_awaitOutline_35 rfl (lv_at hl 1 rfl) ?_
      refine lv_iload_n hx hb d_M_awaitOutline_36 rfl (lv_at hl 3 rfl) ?_
      refine lv_iload hx hb d_M_awaitOutline_37 (lv_at hl 0 rfl) ?_
      obtain ⟨⟨r11, r12⟩, hv14, hf⟩ := o_b hf
      refine wc_v (wr := [(gO, .inr (2, [.ref aRow, .int s_on, .int s_fl])), (aRow, .inl (cI, 40, .inl s_row)), (aLi, .inl (cI, 20, .inl r8))]) (w1 := [(gM, .inr (3, [.ref aKe, .ref aFs, .int s_mn, .ref aLi, .ref aWa, .int r12, .ref aRi, .int s_rn])), (aWa, .inl (cI, 54, .inl r11))]) (va_runV (As := [.int x2, .int r5]) (rest := []) ⟨hx, hb, hml, hown, hts⟩ (c_M_await l dC dI cI cZ gM aKe aFs aLi aWa aRi s_mn s_wa s_wn s_rn x2 r5 r11 r12 H.size hv14) (cwV 2 hts (gd_V bw_227 bw_229 bp_6 bw_4 bw_230) rfl rfl rfl ⟨rfl, hd_M_await⟩ ⟨Nat.le_of_ble_eq_true rfl, Nat.le_of_ble_eq_true rfl⟩) (pv_w (wc := [(gM, .inr (3, [.ref aKe, .ref aFs, .int s_mn, .ref aLi, .ref aWa, .int s_wn, .ref aRi, .int s_rn])), (aWa, .inl (cI, 54, .inl s_wa))]) hK hP hD [2, 4] rfl rfl (by decide) 0 (ci := 3) rfl rfl) rfl rfl hl.1 rfl (lv_room (Nat.le_of_ble_eq_true rfl)) d_M_awaitOutline_39 ⟨Nat.zero_le _, Nat.zero_le _⟩) hP hD hS hA [2, 4] [0, 1, 3] rfl rfl (by decide) (by decide) (fun H locs hP hD hS => ?_)
      have hP : va_P (dC, dI) vwCl [(gO, .inr (2, [.ref aRow, .int s_on, .int s_fl])), (aRow, .inl (cI, 40, .inl s_row)), (gM, .inr (3, [.ref aKe, .ref aFs, .int s_mn, .ref aLi, .ref aWa, .int r12, .ref aRi, .int s_rn])), (aLi, .inl (cI, 20, .inl r8)), (aWa, .inl (cI, 54, .inl r11))] H := hP.sub [0, 1, 3, 2, 4] rfl
      have hD : va_D A [(gO, .inr (2, [.ref aRow, .int s_on, .int s_fl])), (aRow, .inl (cI, 40, .inl s_row)), (gM, .inr (3, [.ref aKe, .ref aFs, .int s_mn, .ref aLi, .ref aWa, .int r12, .ref aRi, .int s_rn])), (aLi, .inl (cI, 20, .inl r8)), (aWa, .inl (cI, 54, .inl r11))] := hD.sub [0, 1, 3, 2, 4] (by decide) rfl
      refine lv_iload hx hb d_M_awaitOutline_42 (lv_at hl 0 rfl) ?_
      refine lv_istore_n (lv' := [(2, .int r5), (4, .int r5), (0, .ref gM), (1, .ref gO), (3, .int x3)]) hx hb d_M_awaitOutline_44 rfl hl (by decide) rfl (fun ls hl => ?_)
      refine lv_iinc (v := (x3 + 1)) (lv' := [(3, .int (x3 + 1)), (2, .int r5), (4, .int r5), (0, .ref gM), (1, .ref gO)]) hx hb d_M_awaitOutline_45 hl (k := 4) rfl rfl (by decide) rfl (fun ls hl => ?_)
      refine lv_goto (tgt := 13) hx hb d_M_awaitOutline_48 (by decide) ?_
      exact ih r8 r11 r12 r5 (x3 + 1) hf _ _ hP hD hS ls (lv_sub hl [3, 4, 1, 0] rfl)
set_option maxHeartbeats 4000000 in
set_option maxRecDepth 100000 in
theorem t_M_awaitOutline_e {p : Program} {l : Launch} {e : Env} {s : State} {m : MethodId} {args : Array Value} {below : List Frame} {meth : Method} {c : Code} {dC : Nat → ClassId} {dI : Nat → Nat → Nat} {cI cZ : ClassId} {gO aRow gM aKe aFs aLi aWa aRi : Nat} {s_row : Nat → Int32} {s_on : Int32} {s_fl : Int32} {s_mn : Int32} {s_rn : Int32} {s_li' : Nat → Int32} {s_wa' : Nat → Int32} {s_wn' : Int32} {A : Nat → Prop} (C0 : cx p s m args meth c b_M_awaitOutline none 5 R_M) (hK : gK dC dI cI cZ s) (hA : ∀ q, s.heap.size ≤ q → A q) : ∀ (s_li : Nat → Int32) (s_wa : Nat → Int32) (s_wn : Int32), f_M_awaitOutline s_row s_on s_li s_wa s_wn = some (s_li', s_wa', s_wn') → ∀ (H : Heap) (locs : List Loc), va_P (dC, dI) vwCl [(gO, .inr (2, [.ref aRow, .int s_on, .int s_fl])), (aRow, .inl (cI, 40, .inl s_row)), (gM, .inr (3, [.ref aKe, .ref aFs, .int s_mn, .ref aLi, .ref aWa, .int s_wn, .ref aRi, .int s_rn])), (aLi, .inl (cI, 20, .inl s_li)), (aWa, .inl (cI, 54, .inl s_wa))] H → va_D A [(gO, .inr (2, [.ref aRow, .int s_on, .int s_fl])), (aRow, .inl (cI, 40, .inl s_row)), (gM, .inr (3, [.ref aKe, .ref aFs, .int s_mn, .ref aLi, .ref aWa, .int s_wn, .ref aRi, .int s_rn])), (aLi, .inl (cI, 20, .inl s_li)), (aWa, .inl (cI, 54, .inl s_wa))] → va_S A s.heap H locs → ∀ (ls : Array Slot), lv_has ls 5 [(0, .ref gM), (1, .ref gO)] → W p l e (headSpec w_M_awaitOutline ({ frames := 1, cells := 0, slots := 0, locals := 22 } : Room)).room s m args below meth c H locs 0 0 (MQ below (QwV dC dI A [(gO, .inr (2, [.ref aRow, .int s_on, .int s_fl])), (aRow, .inl (cI, 40, .inl s_row)), (gM, .inr (3, [.ref aKe, .ref aFs, .int s_mn, .ref aLi, .ref aWa, .int s_wn', .ref aRi, .int s_rn])), (aLi, .inl (cI, 20, .inl s_li')), (aWa, .inl (cI, 54, .inl s_wa'))]) args s 0 0 A) (F0 m 0 ls []) := by
  obtain ⟨hx, hb, hr, hml, hts, hown, hlocks⟩ := id C0
  intro s_li s_wa s_wn hf H locs hP hD hS ls hl
  refine lv_aload_n hx hb d_M_awaitOutline_0 rfl (lv_at hl 1 rfl) ?_
  refine lv_aload_n hx hb d_M_awaitOutline_1 rfl (lv_at hl 1 rfl) ?_
  obtain ⟨r15, hv17, hf⟩ := o_b hf
  refine rc_i (va_runV (As := []) (rest := [.ref gO]) ⟨hx, hb, hml, hown, hts⟩ (c_O_size l dC dI cI cZ gO aRow s_on s_fl r15 hv17) (cwV 0 hts (gd_V bw_211 bw_212 bw_213 bw_3 bw_214) rfl rfl rfl ⟨rfl, hd_O_size⟩ ⟨Nat.le_of_ble_eq_true rfl, Nat.le_of_ble_eq_true rfl⟩) (pv_r (wc := [(gO, .inr (2, [.ref aRow, .int s_on, .int s_fl]))]) hK hP [0] rfl 0 (ci := 2) rfl rfl) rfl rfl hl.1 rfl (lv_room (Nat.le_of_ble_eq_true rfl)) d_M_awaitOutline_2 ⟨Nat.zero_le _, Nat.zero_le _⟩) ?_
  refine lv_iconst (v := (1 : Int32)) hx hb d_M_awaitOutline_5 rfl ?_
  refine lv_isub hx hb d_M_awaitOutline_6 ?_
  obtain ⟨r18, hv20, hf⟩ := o_b hf
  refine rc_i (va_runV (As := [.int (r15 - (1 : Int32))]) (rest := []) ⟨hx, hb, hml, hown, hts⟩ (c_O_at l dC dI cI cZ gO aRow s_row s_on s_fl (r15 - (1 : Int32)) r18 hv20) (cwV 1 hts (gd_V bw_215 bw_216 bw_217 bw_3 bw_218) rfl rfl rfl ⟨rfl, hd_O_at⟩ ⟨Nat.le_of_ble_eq_true rfl, Nat.le_of_ble_eq_true rfl⟩) (pv_r (wc := [(gO, .inr (2, [.ref aRow, .int s_on, .int s_fl])), (aRow, .inl (cI, 40, .inl s_row))]) hK hP [0, 1] rfl 0 (ci := 2) rfl rfl) rfl rfl hl.1 rfl (lv_room (Nat.le_of_ble_eq_true rfl)) d_M_awaitOutline_7 ⟨Nat.zero_le _, Nat.zero_le _⟩) ?_
  refine lv_istore_n (lv' := [(2, .int r18), (0, .ref gM), (1, .ref gO)]) hx hb d_M_awaitOutline_10 rfl hl (by decide) rfl (fun ls hl => ?_)
  refine lv_iconst (v := (0 : Int32)) hx hb d_M_awaitOutline_11 rfl ?_
  refine lv_istore_n (lv' := [(3, .int (0 : Int32)), (2, .int r18), (0, .ref gM), (1, .ref gO)]) hx hb d_M_awaitOutline_12 rfl hl (by decide) rfl (fun ls hl => ?_)
  exact t_M_awaitOutline_L13 C0 hK hA  600 s_li s_wa s_wn r18 (0 : Int32) hf _ _ hP hD hS ls (lv_sub hl [2, 3, 1, 0] rfl)
set_option maxHeartbeats 4000000 in
set_option maxRecDepth 100000 in
theorem c_M_awaitOutline (l : Launch) (dC : Nat → ClassId) (dI : Nat → Nat → Nat) (cI cZ : ClassId) (gO aRow gM aKe aFs aLi aWa aRi : Nat) (s_row : Nat → Int32) (s_on : Int32) (s_fl : Int32) (s_mn : Int32) (s_li : Nat → Int32) (s_wa : Nat → Int32) (s_wn : Int32) (s_rn : Int32) (s_li' : Nat → Int32) (s_wa' : Nat → Int32) (s_wn' : Int32) (sz : Nat) (hf : f_M_awaitOutline s_row s_on s_li s_wa s_wn = some (s_li', s_wa', s_wn')) : Met l y_M_awaitOutline w_M_awaitOutline ({ frames := 1, cells := 0, slots := 0, locals := 22 } : Room) (PcW dC dI cI cZ [.ref gM, .ref gO] [(gO, .inr (2, [.ref aRow, .int s_on, .int s_fl])), (aRow, .inl (cI, 40, .inl s_row)), (gM, .inr (3, [.ref aKe, .ref aFs, .int s_mn, .ref aLi, .ref aWa, .int s_wn, .ref aRi, .int s_rn])), (aLi, .inl (cI, 20, .inl s_li)), (aWa, .inl (cI, 54, .inl s_wa))] sz) (QwV dC dI (va_A [(gO, .inr (2, [.ref aRow, .int s_on, .int s_fl])), (aRow, .inl (cI, 40, .inl s_row)), (gM, .inr (3, [.ref aKe, .ref aFs, .int s_mn, .ref aLi, .ref aWa, .int s_wn, .ref aRi, .int s_rn])), (aLi, .inl (cI, 20, .inl s_li)), (aWa, .inl (cI, 54, .inl s_wa))] sz) [(gO, .inr (2, [.ref aRow, .int s_on, .int s_fl])), (aRow, .inl (cI, 40, .inl s_row)), (gM, .inr (3, [.ref aKe, .ref aFs, .int s_mn, .ref aLi, .ref aWa, .int s_wn', .ref aRi, .int s_rn])), (aLi, .inl (cI, 20, .inl s_li')), (aWa, .inl (cI, 54, .inl s_wa'))]) 0 0 (va_A [(gO, .inr (2, [.ref aRow, .int s_on, .int s_fl])), (aRow, .inl (cI, 40, .inl s_row)), (gM, .inr (3, [.ref aKe, .ref aFs, .int s_mn, .ref aLi, .ref aWa, .int s_wn, .ref aRi, .int s_rn])), (aLi, .inl (cI, 20, .inl s_li)), (aWa, .inl (cI, 54, .inl s_wa))] sz) := by
  refine Met.ofW (cc := b_M_awaitOutline) (maxL := 5) (ret := none) (by decide) rfl ?_
  intro p e s m args below meth c s₁ B hml hv
  obtain ⟨rfl, hsz, hP, hK, hD0⟩ := hv
  have C0 : cx p s m _ meth c b_M_awaitOutline none 5 R_M := ⟨B.exec, B.bytes, B.returns, hml, fun w hw => atoms_spec (ws := w_M_awaitOutline) B.pre w (List.mem_cons_of_mem _ hw), findClass_of_methodNamed B.named, B.notSynchronized⟩
  subst hsz
  have hD := hD0.self (sz := s.heap.size)
  generalize hAe : va_A [(gO, .inr (2, [.ref aRow, .int s_on, .int s_fl])), (aRow, .inl (cI, 40, .inl s_row)), (gM, .inr (3, [.ref aKe, .ref aFs, .int s_mn, .ref aLi, .ref aWa, .int s_wn, .ref aRi, .int s_rn])), (aLi, .inl (cI, 20, .inl s_li)), (aWa, .inl (cI, 54, .inl s_wa))] s.heap.size = A at hD ⊢
  have hA : ∀ q : Nat, s.heap.size ≤ q → A q := fun q h => by rw [← hAe]; exact Or.inr h
  have hl := lv_entry ([.ref gM, .ref gO]) (n := 5) (Nat.le_of_ble_eq_true rfl)
  rw [lg_entry_eq]
  generalize (lg_sl ([.ref gM, .ref gO]) ++ List.replicate (5 - (lg_sl ([.ref gM, .ref gO])).length) Slot.unset).toArray = ls at hl ⊢
  have hl : lv_has ls 5 [(0, .ref gM), (1, .ref gO)] := hl
  exact t_M_awaitOutline_e C0 hK hA s_li s_wa s_wn hf _ _ hP hD va_S.rf ls hl
set_option maxHeartbeats 4000000 in
set_option maxRecDepth 100000 in
theorem t_M_begin_e {p : Program} {l : Launch} {e : Env} {s : State} {m : MethodId} {args : Array Value} {below : List Frame} {meth : Method} {c : Code} {dC : Nat → ClassId} {dI : Nat → Nat → Nat} {cI cZ : ClassId} {gO aRow gM aKe aFs aLi aWa aRi : Nat} {s_row : Nat → Int32} {s_on : Int32} {s_fl : Int32} {s_rn : Int32} {s_mn' : Int32} {s_li' : Nat → Int32} {s_wa' : Nat → Int32} {s_wn' : Int32} {A : Nat → Prop} (C0 : cx p s m args meth c b_M_begin none 2 R_M) (hK : gK dC dI cI cZ s) (hA : ∀ q, s.heap.size ≤ q → A q) : ∀ (s_mn : Int32) (s_li : Nat → Int32) (s_wa : Nat → Int32) (s_wn : Int32), f_M_begin s_row s_on s_fl s_mn s_li s_wa s_wn = some (s_mn', s_li', s_wa', s_wn') → ∀ (H : Heap) (locs : List Loc), va_P (dC, dI) vwCl [(gO, .inr (2, [.ref aRow, .int s_on, .int s_fl])), (aRow, .inl (cI, 40, .inl s_row)), (gM, .inr (3, [.ref aKe, .ref aFs, .int s_mn, .ref aLi, .ref aWa, .int s_wn, .ref aRi, .int s_rn])), (aLi, .inl (cI, 20, .inl s_li)), (aWa, .inl (cI, 54, .inl s_wa))] H → va_D A [(gO, .inr (2, [.ref aRow, .int s_on, .int s_fl])), (aRow, .inl (cI, 40, .inl s_row)), (gM, .inr (3, [.ref aKe, .ref aFs, .int s_mn, .ref aLi, .ref aWa, .int s_wn, .ref aRi, .int s_rn])), (aLi, .inl (cI, 20, .inl s_li)), (aWa, .inl (cI, 54, .inl s_wa))] → va_S A s.heap H locs → ∀ (ls : Array Slot), lv_has ls 2 [(0, .ref gM), (1, .ref gO)] → W p l e (headSpec w_M_begin ({ frames := 2, cells := 0, slots := 0, locals := 46 } : Room)).room s m args below meth c H locs 0 0 (MQ below (QwV dC dI A [(gO, .inr (2, [.ref aRow, .int s_on, .int s_fl])), (aRow, .inl (cI, 40, .inl s_row)), (gM, .inr (3, [.ref aKe, .ref aFs, .int s_mn', .ref aLi, .ref aWa, .int s_wn', .ref aRi, .int s_rn])), (aLi, .inl (cI, 20, .inl s_li')), (aWa, .inl (cI, 54, .inl s_wa'))]) args s 0 0 A) (F0 m 0 ls []) := by
  obtain ⟨hx, hb, hr, hml, hts, hown, hlocks⟩ := id C0
  intro s_mn s_li s_wa s_wn hf H locs hP hD hS ls hl
  refine lv_aload_n hx hb d_M_begin_0 rfl (lv_at hl 0 rfl) ?_
  refine lv_iconst (v := (0 : Int32)) hx hb d_M_begin_1 rfl ?_
  refine va_put (D := (dC, dI)) (ci := 3) (v := .int (0 : Int32)) (ty := .int) (C := R_M) (T := T_M) (N := 8) hx hb hts in_M ty_M tok_M nok_M hown hK.1 hP hD hS 2 rfl rfl 2 (by decide) (hts _ bw_63) (fun _ h9 => h9) rfl (by decide +kernel) rfl rfl (Nat.le_of_ble_eq_true rfl) d_M_begin_2 (fun H locs hP hD hS => ?_)
  have hP : va_P (dC, dI) vwCl [(gO, .inr (2, [.ref aRow, .int s_on, .int s_fl])), (aRow, .inl (cI, 40, .inl s_row)), (gM, .inr (3, [.ref aKe, .ref aFs, .int (0 : Int32), .ref aLi, .ref aWa, .int s_wn, .ref aRi, .int s_rn])), (aLi, .inl (cI, 20, .inl s_li)), (aWa, .inl (cI, 54, .inl s_wa))] H := hP
  have hD : va_D A [(gO, .inr (2, [.ref aRow, .int s_on, .int s_fl])), (aRow, .inl (cI, 40, .inl s_row)), (gM, .inr (3, [.ref aKe, .ref aFs, .int (0 : Int32), .ref aLi, .ref aWa, .int s_wn, .ref aRi, .int s_rn])), (aLi, .inl (cI, 20, .inl s_li)), (aWa, .inl (cI, 54, .inl s_wa))] := hD
  refine lv_aload_n hx hb d_M_begin_5 rfl (lv_at hl 0 rfl) ?_
  refine lv_iconst (v := (0 : Int32)) hx hb d_M_begin_6 rfl ?_
  refine va_put (D := (dC, dI)) (ci := 3) (v := .int (0 : Int32)) (ty := .int) (C := R_M) (T := T_M) (N := 8) hx hb hts in_M ty_M tok_M nok_M hown hK.1 hP hD hS 2 rfl rfl 5 (by decide) (hts _ bw_66) (fun _ h9 => h9) rfl (by decide +kernel) rfl rfl (Nat.le_of_ble_eq_true rfl) d_M_begin_7 (fun H locs hP hD hS => ?_)
  have hP : va_P (dC, dI) vwCl [(gO, .inr (2, [.ref aRow, .int s_on, .int s_fl])), (aRow, .inl (cI, 40, .inl s_row)), (gM, .inr (3, [.ref aKe, .ref aFs, .int (0 : Int32), .ref aLi, .ref aWa, .int (0 : Int32), .ref aRi, .int s_rn])), (aLi, .inl (cI, 20, .inl s_li)), (aWa, .inl (cI, 54, .inl s_wa))] H := hP
  have hD : va_D A [(gO, .inr (2, [.ref aRow, .int s_on, .int s_fl])), (aRow, .inl (cI, 40, .inl s_row)), (gM, .inr (3, [.ref aKe, .ref aFs, .int (0 : Int32), .ref aLi, .ref aWa, .int (0 : Int32), .ref aRi, .int s_rn])), (aLi, .inl (cI, 20, .inl s_li)), (aWa, .inl (cI, 54, .inl s_wa))] := hD
  refine lv_aload_n hx hb d_M_begin_10 rfl (lv_at hl 0 rfl) ?_
  refine va_get (D := (dC, dI)) (ci := 3) (v := .ref aLi) (C := R_M) (T := T_M) (N := 8) hx hb hts in_M hown hK.1 hP 2 rfl rfl 3 (by decide) (hts _ bw_64) (fun _ h9 => h9) rfl d_M_begin_11 ?_
  refine lv_iconst (v := (0 : Int32)) hx hb d_M_begin_14 rfl ?_
  obtain ⟨r1, hv3, hf⟩ := o_b hf
  refine wc_v (wr := [(gO, .inr (2, [.ref aRow, .int s_on, .int s_fl])), (aRow, .inl (cI, 40, .inl s_row)), (gM, .inr (3, [.ref aKe, .ref aFs, .int (0 : Int32), .ref aLi, .ref aWa, .int (0 : Int32), .ref aRi, .int s_rn])), (aWa, .inl (cI, 54, .inl s_wa))]) (w1 := [(aLi, .inl (cI, 20, .inl r1))]) (va_runS (As := [.ref aLi, .int (0 : Int32)]) (rest := []) ⟨hx, hb, hml, hown, hts⟩ (c_J_fill l dC dI cI cZ aLi s_li (0 : Int32) r1 H.size hv3) (va_cwS 2 hts (gd_S bw_200 bw_201 bw_6 bw_202) rfl rfl rfl hd_J_fill ⟨Nat.le_of_ble_eq_true rfl, Nat.le_of_ble_eq_true rfl⟩) (ps_w (wc := [(aLi, .inl (cI, 20, .inl s_li))]) hK hP hD [3] rfl rfl (by decide)) rfl rfl hl.1 rfl (lv_room (Nat.le_of_ble_eq_true rfl)) d_M_begin_15 ⟨Nat.zero_le _, Nat.zero_le _⟩) hP hD hS hA [3] [0, 1, 2, 4] rfl rfl (by decide) (by decide) (fun H locs hP hD hS => ?_)
  have hP : va_P (dC, dI) vwCl [(gO, .inr (2, [.ref aRow, .int s_on, .int s_fl])), (aRow, .inl (cI, 40, .inl s_row)), (gM, .inr (3, [.ref aKe, .ref aFs, .int (0 : Int32), .ref aLi, .ref aWa, .int (0 : Int32), .ref aRi, .int s_rn])), (aLi, .inl (cI, 20, .inl r1)), (aWa, .inl (cI, 54, .inl s_wa))] H := hP.sub [0, 1, 2, 4, 3] rfl
  have hD : va_D A [(gO, .inr (2, [.ref aRow, .int s_on, .int s_fl])), (aRow, .inl (cI, 40, .inl s_row)), (gM, .inr (3, [.ref aKe, .ref aFs, .int (0 : Int32), .ref aLi, .ref aWa, .int (0 : Int32), .ref aRi, .int s_rn])), (aLi, .inl (cI, 20, .inl r1)), (aWa, .inl (cI, 54, .inl s_wa))] := hD.sub [0, 1, 2, 4, 3] (by decide) rfl
  refine lv_aload_n hx hb d_M_begin_18 rfl (lv_at hl 1 rfl) ?_
  obtain ⟨r4, hv6, hf⟩ := o_b hf
  refine rc_i (va_runV (As := []) (rest := []) ⟨hx, hb, hml, hown, hts⟩ (c_O_isFlat l dC dI cI cZ gO aRow s_on s_fl r4 hv6) (cwV 0 hts (gd_V bw_203 bw_204 bw_205 bw_3 bw_206) rfl rfl rfl ⟨rfl, hd_O_isFlat⟩ ⟨Nat.le_of_ble_eq_true rfl, Nat.le_of_ble_eq_true rfl⟩) (pv_r (wc := [(gO, .inr (2, [.ref aRow, .int s_on, .int s_fl]))]) hK hP [0] rfl 0 (ci := 2) rfl rfl) rfl rfl hl.1 rfl (lv_room (Nat.le_of_ble_eq_true rfl)) d_M_begin_19 ⟨Nat.zero_le _, Nat.zero_le _⟩) ?_
  refine lv_if_eq (tgt := 33) hx hb d_M_begin_22 (by decide) (fun hc7 => ?_) (fun hc7 => ?_)
  · have hf := o_t hf hc7
    refine lv_aload_n hx hb d_M_begin_33 rfl (lv_at hl 0 rfl) ?_
    refine lv_aload_n hx hb d_M_begin_34 rfl (lv_at hl 1 rfl) ?_
    obtain ⟨⟨r8, r9, r10⟩, hv12, hf⟩ := o_b hf
    refine wc_v (wr := []) (w1 := [(gO, .inr (2, [.ref aRow, .int s_on, .int s_fl])), (aRow, .inl (cI, 40, .inl s_row)), (gM, .inr (3, [.ref aKe, .ref aFs, .int (0 : Int32), .ref aLi, .ref aWa, .int r10, .ref aRi, .int s_rn])), (aLi, .inl (cI, 20, .inl r8)), (aWa, .inl (cI, 54, .inl r9))]) (va_runV (As := [.ref gO]) (rest := []) ⟨hx, hb, hml, hown, hts⟩ (c_M_awaitOutline l dC dI cI cZ gO aRow gM aKe aFs aLi aWa aRi s_row s_on s_fl (0 : Int32) r1 s_wa (0 : Int32) s_rn r8 r9 r10 H.size hv12) (cwV 1 hts (gd_V bw_223 bw_225 bp_5 bw_4 bw_226) rfl rfl rfl ⟨rfl, hd_M_awaitOutline⟩ ⟨Nat.le_of_ble_eq_true rfl, Nat.le_of_ble_eq_true rfl⟩) (pv_w (wc := [(gO, .inr (2, [.ref aRow, .int s_on, .int s_fl])), (aRow, .inl (cI, 40, .inl s_row)), (gM, .inr (3, [.ref aKe, .ref aFs, .int (0 : Int32), .ref aLi, .ref aWa, .int (0 : Int32), .ref aRi, .int s_rn])), (aLi, .inl (cI, 20, .inl r1)), (aWa, .inl (cI, 54, .inl s_wa))]) hK hP hD [0, 1, 2, 3, 4] rfl rfl (by decide) 2 (ci := 3) rfl rfl) rfl rfl hl.1 rfl (lv_room (Nat.le_of_ble_eq_true rfl)) d_M_begin_35 ⟨Nat.zero_le _, Nat.zero_le _⟩) hP hD hS hA [0, 1, 2, 3, 4] [] rfl rfl (by decide) (by decide) (fun H locs hP hD hS => ?_)
    have hP : va_P (dC, dI) vwCl [(gO, .inr (2, [.ref aRow, .int s_on, .int s_fl])), (aRow, .inl (cI, 40, .inl s_row)), (gM, .inr (3, [.ref aKe, .ref aFs, .int (0 : Int32), .ref aLi, .ref aWa, .int r10, .ref aRi, .int s_rn])), (aLi, .inl (cI, 20, .inl r8)), (aWa, .inl (cI, 54, .inl r9))] H := hP.sub [0, 1, 2, 3, 4] rfl
    have hD : va_D A [(gO, .inr (2, [.ref aRow, .int s_on, .int s_fl])), (aRow, .inl (cI, 40, .inl s_row)), (gM, .inr (3, [.ref aKe, .ref aFs, .int (0 : Int32), .ref aLi, .ref aWa, .int r10, .ref aRi, .int s_rn])), (aLi, .inl (cI, 20, .inl r8)), (aWa, .inl (cI, 54, .inl r9))] := hD.sub [0, 1, 2, 3, 4] (by decide) rfl
    cases hf
    exact wr_v hx hb hr hlocks hP hD hS d_M_begin_38
  · have hf := o_f hf hc7
    refine lv_aload_n hx hb d_M_begin_25 rfl (lv_at hl 0 rfl) ?_
    refine lv_aload_n hx hb d_M_begin_26 rfl (lv_at hl 1 rfl) ?_
    obtain ⟨r13, hv15, hf⟩ := o_b hf
    refine wc_v (wr := [(aWa, .inl (cI, 54, .inl s_wa))]) (w1 := [(gO, .inr (2, [.ref aRow, .int s_on, .int s_fl])), (aRow, .inl (cI, 40, .inl s_row)), (gM, .inr (3, [.ref aKe, .ref aFs, .int (0 : Int32), .ref aLi, .ref aWa, .int (0 : Int32), .ref aRi, .int s_rn])), (aLi, .inl (cI, 20, .inl r13))]) (va_runV (As := [.ref gO]) (rest := []) ⟨hx, hb, hml, hown, hts⟩ (c_M_linkLine l dC dI cI cZ gO aRow gM aKe aFs aLi aWa aRi s_row s_on s_fl (0 : Int32) r1 (0 : Int32) s_rn r13 H.size hv15) (cwV 1 hts (gd_V bw_207 bw_209 bp_3 bw_4 bw_210) rfl rfl rfl ⟨rfl, hd_M_linkLine⟩ ⟨Nat.le_of_ble_eq_true rfl, Nat.le_of_ble_eq_true rfl⟩) (pv_w (wc := [(gO, .inr (2, [.ref aRow, .int s_on, .int s_fl])), (aRow, .inl (cI, 40, .inl s_row)), (gM, .inr (3, [.ref aKe, .ref aFs, .int (0 : Int32), .ref aLi, .ref aWa, .int (0 : Int32), .ref aRi, .int s_rn])), (aLi, .inl (cI, 20, .inl r1))]) hK hP hD [0, 1, 2, 3] rfl rfl (by decide) 2 (ci := 3) rfl rfl) rfl rfl hl.1 rfl (lv_room (Nat.le_of_ble_eq_true rfl)) d_M_begin_27 ⟨Nat.zero_le _, Nat.zero_le _⟩) hP hD hS hA [0, 1, 2, 3] [4] rfl rfl (by decide) (by decide) (fun H locs hP hD hS => ?_)
    have hP : va_P (dC, dI) vwCl [(gO, .inr (2, [.ref aRow, .int s_on, .int s_fl])), (aRow, .inl (cI, 40, .inl s_row)), (gM, .inr (3, [.ref aKe, .ref aFs, .int (0 : Int32), .ref aLi, .ref aWa, .int (0 : Int32), .ref aRi, .int s_rn])), (aLi, .inl (cI, 20, .inl r13)), (aWa, .inl (cI, 54, .inl s_wa))] H := hP.sub [1, 2, 3, 4, 0] rfl
    have hD : va_D A [(gO, .inr (2, [.ref aRow, .int s_on, .int s_fl])), (aRow, .inl (cI, 40, .inl s_row)), (gM, .inr (3, [.ref aKe, .ref aFs, .int (0 : Int32), .ref aLi, .ref aWa, .int (0 : Int32), .ref aRi, .int s_rn])), (aLi, .inl (cI, 20, .inl r13)), (aWa, .inl (cI, 54, .inl s_wa))] := hD.sub [1, 2, 3, 4, 0] (by decide) rfl
    refine lv_goto (tgt := 38) hx hb d_M_begin_30 (by decide) ?_
    cases hf
    exact wr_v hx hb hr hlocks hP hD hS d_M_begin_38
set_option maxHeartbeats 4000000 in
set_option maxRecDepth 100000 in
theorem c_M_begin (l : Launch) (dC : Nat → ClassId) (dI : Nat → Nat → Nat) (cI cZ : ClassId) (gO aRow gM aKe aFs aLi aWa aRi : Nat) (s_row : Nat → Int32) (s_on : Int32) (s_fl : Int32) (s_mn : Int32) (s_li : Nat → Int32) (s_wa : Nat → Int32) (s_wn : Int32) (s_rn : Int32) (s_mn' : Int32) (s_li' : Nat → Int32) (s_wa' : Nat → Int32) (s_wn' : Int32) (sz : Nat) (hf : f_M_begin s_row s_on s_fl s_mn s_li s_wa s_wn = some (s_mn', s_li', s_wa', s_wn')) : Met l y_M_begin w_M_begin ({ frames := 2, cells := 0, slots := 0, locals := 46 } : Room) (PcW dC dI cI cZ [.ref gM, .ref gO] [(gO, .inr (2, [.ref aRow, .int s_on, .int s_fl])), (aRow, .inl (cI, 40, .inl s_row)), (gM, .inr (3, [.ref aKe, .ref aFs, .int s_mn, .ref aLi, .ref aWa, .int s_wn, .ref aRi, .int s_rn])), (aLi, .inl (cI, 20, .inl s_li)), (aWa, .inl (cI, 54, .inl s_wa))] sz) (QwV dC dI (va_A [(gO, .inr (2, [.ref aRow, .int s_on, .int s_fl])), (aRow, .inl (cI, 40, .inl s_row)), (gM, .inr (3, [.ref aKe, .ref aFs, .int s_mn, .ref aLi, .ref aWa, .int s_wn, .ref aRi, .int s_rn])), (aLi, .inl (cI, 20, .inl s_li)), (aWa, .inl (cI, 54, .inl s_wa))] sz) [(gO, .inr (2, [.ref aRow, .int s_on, .int s_fl])), (aRow, .inl (cI, 40, .inl s_row)), (gM, .inr (3, [.ref aKe, .ref aFs, .int s_mn', .ref aLi, .ref aWa, .int s_wn', .ref aRi, .int s_rn])), (aLi, .inl (cI, 20, .inl s_li')), (aWa, .inl (cI, 54, .inl s_wa'))]) 0 0 (va_A [(gO, .inr (2, [.ref aRow, .int s_on, .int s_fl])), (aRow, .inl (cI, 40, .inl s_row)), (gM, .inr (3, [.ref aKe, .ref aFs, .int s_mn, .ref aLi, .ref aWa, .int s_wn, .ref aRi, .int s_rn])), (aLi, .inl (cI, 20, .inl s_li)), (aWa, .inl (cI, 54, .inl s_wa))] sz) := by
  refine Met.ofW (cc := b_M_begin) (maxL := 2) (ret := none) (by decide) rfl ?_
  intro p e s m args below meth c s₁ B hml hv
  obtain ⟨rfl, hsz, hP, hK, hD0⟩ := hv
  have C0 : cx p s m _ meth c b_M_begin none 2 R_M := ⟨B.exec, B.bytes, B.returns, hml, fun w hw => atoms_spec (ws := w_M_begin) B.pre w (List.mem_cons_of_mem _ hw), findClass_of_methodNamed B.named, B.notSynchronized⟩
  subst hsz
  have hD := hD0.self (sz := s.heap.size)
  generalize hAe : va_A [(gO, .inr (2, [.ref aRow, .int s_on, .int s_fl])), (aRow, .inl (cI, 40, .inl s_row)), (gM, .inr (3, [.ref aKe, .ref aFs, .int s_mn, .ref aLi, .ref aWa, .int s_wn, .ref aRi, .int s_rn])), (aLi, .inl (cI, 20, .inl s_li)), (aWa, .inl (cI, 54, .inl s_wa))] s.heap.size = A at hD ⊢
  have hA : ∀ q : Nat, s.heap.size ≤ q → A q := fun q h => by rw [← hAe]; exact Or.inr h
  have hl := lv_entry ([.ref gM, .ref gO]) (n := 2) (Nat.le_of_ble_eq_true rfl)
  rw [lg_entry_eq]
  generalize (lg_sl ([.ref gM, .ref gO]) ++ List.replicate (2 - (lg_sl ([.ref gM, .ref gO])).length) Slot.unset).toArray = ls at hl ⊢
  have hl : lv_has ls 2 [(0, .ref gM), (1, .ref gO)] := hl
  exact t_M_begin_e C0 hK hA s_mn s_li s_wa s_wn hf _ _ hP hD va_S.rf ls hl
set_option maxHeartbeats 4000000 in
set_option maxRecDepth 100000 in
theorem c_M_isLinked (l : Launch) (dC : Nat → ClassId) (dI : Nat → Nat → Nat) (cI cZ : ClassId) (gM aKe aFs aLi aWa aRi : Nat) (s_mn : Int32) (s_li : Nat → Int32) (s_wn : Int32) (s_rn : Int32) (x1 : Int32) (x2 : Int32) (rv : Int32) (hf : f_M_isLinked s_li x1 x2 = some rv) : Met l y_M_isLinked w_M_isLinked ({ frames := 0, cells := 0, slots := 0, locals := 0 } : Room) (PcR dC dI cI cZ [.ref gM, .int x1, .int x2] [(gM, .inr (3, [.ref aKe, .ref aFs, .int s_mn, .ref aLi, .ref aWa, .int s_wn, .ref aRi, .int s_rn])), (aLi, .inl (cI, 20, .inl s_li))]) (vp_Si (fun r => r = rv)) 0 0 (fun _ => False) := by
  refine Met.ofW (cc := b_M_isLinked) (maxL := 3) (ret := (some .boolean)) (by decide) rfl ?_
  intro p e s m args below meth c s₁ B hml hv
  obtain ⟨rfl, hP, hK⟩ := hv
  have C0 : cx p s m _ meth c b_M_isLinked (some .boolean) 3 R_M := ⟨B.exec, B.bytes, B.returns, hml, fun w hw => atoms_spec (ws := w_M_isLinked) B.pre w (List.mem_cons_of_mem _ hw), findClass_of_methodNamed B.named, B.notSynchronized⟩
  obtain ⟨hx, hb, hr, hml, hts, hown, hlocks⟩ := id C0
  have hl := lv_entry ([.ref gM, .int x1, .int x2]) (n := 3) (Nat.le_of_ble_eq_true rfl)
  rw [lg_entry_eq]
  generalize (lg_sl ([.ref gM, .int x1, .int x2]) ++ List.replicate (3 - (lg_sl ([.ref gM, .int x1, .int x2])).length) Slot.unset).toArray = ls at hl ⊢
  have hl : lv_has ls 3 [(0, .ref gM), (1, .int x1), (2, .int x2)] := hl
  refine lv_aload_n hx hb d_M_isLinked_0 rfl (lv_at hl 0 rfl) ?_
  refine va_get (D := (dC, dI)) (ci := 3) (v := .ref aLi) (C := R_M) (T := T_M) (N := 8) hx hb hts in_M hown hK.1 hP 0 rfl rfl 3 (by decide) (hts _ bw_64) (fun _ h9 => h9) rfl d_M_isLinked_1 ?_
  refine lv_iload_n hx hb d_M_isLinked_4 rfl (lv_at hl 1 rfl) ?_
  obtain ⟨hi1, hf⟩ := o_i hf
  refine va_iald (cA := cI) (n := 20) (f := s_li) hx hb hK.1 hP 1 0 rfl rfl hi1 d_M_isLinked_5 ?_
  refine lv_iload_n hx hb d_M_isLinked_6 rfl (lv_at hl 2 rfl) ?_
  refine lv_ishr hx hb d_M_isLinked_7 ?_
  refine lv_iconst (v := (1 : Int32)) hx hb d_M_isLinked_8 rfl ?_
  refine lv_iand hx hb d_M_isLinked_9 ?_
  refine lv_if_eq (tgt := 17) hx hb d_M_isLinked_10 (by decide) (fun hc2 => ?_) (fun hc2 => ?_)
  · have hf := o_t hf hc2
    refine lv_iconst (v := (0 : Int32)) hx hb d_M_isLinked_17 rfl ?_
    cases hf
    exact rr_z hx hb hr hlocks rfl d_M_isLinked_18
  · have hf := o_f hf hc2
    refine lv_iconst (v := (1 : Int32)) hx hb d_M_isLinked_13 rfl ?_
    refine lv_goto (tgt := 18) hx hb d_M_isLinked_14 (by decide) ?_
    cases hf
    exact rr_z hx hb hr hlocks rfl d_M_isLinked_18
set_option maxHeartbeats 4000000 in
set_option maxRecDepth 100000 in
theorem t_M_addToRing_b52 {p : Program} {l : Launch} {e : Env} {s : State} {m : MethodId} {args : Array Value} {below : List Frame} {meth : Method} {c : Code} {dC : Nat → ClassId} {dI : Nat → Nat → Nat} {cI cZ : ClassId} {gP aXs aYs aTk aOr gM aKe aFs aLi aWa aRi : Nat} {s_xs : Nat → Int32} {s_ys : Nat → Int32} {s_pn : Int32} {s_mn : Int32} {s_wn : Int32} {s_ri' : Nat → Int32} {s_rn' : Int32} {A : Nat → Prop} (C0 : cx p s m args meth c b_M_addToRing none 4 R_M) (hK : gK dC dI cI cZ s) (hA : ∀ q, s.heap.size ≤ q → A q) : ∀ (s_ri : Nat → Int32) (s_rn : Int32) (x2 : Int32) (x3 : Int32), f_M_addToRing_b52 s_xs s_ys s_ri s_rn x2 x3 = some (s_ri', s_rn') → ∀ (H : Heap) (locs : List Loc), va_P (dC, dI) vwCl [(gP, .inr (1, [.ref aXs, .ref aYs, .ref aTk, .ref aOr, .int s_pn])), (aXs, .inl (cI, 20, .inl s_xs)), (aYs, .inl (cI, 20, .inl s_ys)), (gM, .inr (3, [.ref aKe, .ref aFs, .int s_mn, .ref aLi, .ref aWa, .int s_wn, .ref aRi, .int s_rn])), (aRi, .inl (cI, 20, .inl s_ri))] H → va_D A [(gP, .inr (1, [.ref aXs, .ref aYs, .ref aTk, .ref aOr, .int s_pn])), (aXs, .inl (cI, 20, .inl s_xs)), (aYs, .inl (cI, 20, .inl s_ys)), (gM, .inr (3, [.ref aKe, .ref aFs, .int s_mn, .ref aLi, .ref aWa, .int s_wn, .ref aRi, .int s_rn])), (aRi, .inl (cI, 20, .inl s_ri))] → va_S A s.heap H locs → ∀ (ls : Array Slot), lv_has ls 4 [(0, .ref gM), (2, .int x2), (3, .int x3)] → W p l e (headSpec w_M_addToRing ({ frames := 2, cells := 0, slots := 0, locals := 55 } : Room)).room s m args below meth c H locs 0 0 (MQ below (QwV dC dI A [(gP, .inr (1, [.ref aXs, .ref aYs, .ref aTk, .ref aOr, .int s_pn])), (aXs, .inl (cI, 20, .inl s_xs)), (aYs, .inl (cI, 20, .inl s_ys)), (gM, .inr (3, [.ref aKe, .ref aFs, .int s_mn, .ref aLi, .ref aWa, .int s_wn, .ref aRi, .int s_rn'])), (aRi, .inl (cI, 20, .inl s_ri'))]) args s 0 0 A) (F0 m 52 ls []) := by
  obtain ⟨hx, hb, hr, hml, hts, hown, hlocks⟩ := id C0
  intro s_ri s_rn x2 x3 hf H locs hP hD hS ls hl
  refine lv_aload_n hx hb d_M_addToRing_52 rfl (lv_at hl 0 rfl) ?_
  refine va_get (D := (dC, dI)) (ci := 3) (v := .ref aRi) (C := R_M) (T := T_M) (N := 8) hx hb hts in_M hown hK.1 hP 3 rfl rfl 6 (by decide) (hts _ bw_67) (fun _ h9 => h9) rfl d_M_addToRing_53 ?_
  refine lv_iload_n hx hb d_M_addToRing_56 rfl (lv_at hl 2 rfl) ?_
  refine lv_iload_n hx hb d_M_addToRing_57 rfl (lv_at hl 1 rfl) ?_
  obtain ⟨hi1, hf⟩ := o_i hf
  refine va_iast (cA := cI) (n := 20) (f := s_ri) hx hb hK.1 hP hD hS 4 0 rfl rfl hi1 d_M_addToRing_58 (fun H locs hP hD hS => ?_)
  have hP : va_P (dC, dI) vwCl [(gP, .inr (1, [.ref aXs, .ref aYs, .ref aTk, .ref aOr, .int s_pn])), (aXs, .inl (cI, 20, .inl s_xs)), (aYs, .inl (cI, 20, .inl s_ys)), (gM, .inr (3, [.ref aKe, .ref aFs, .int s_mn, .ref aLi, .ref aWa, .int s_wn, .ref aRi, .int s_rn])), (aRi, .inl (cI, 20, .inl (upd s_ri x3.toNatClampNeg x2)))] H := hP
  have hD : va_D A [(gP, .inr (1, [.ref aXs, .ref aYs, .ref aTk, .ref aOr, .int s_pn])), (aXs, .inl (cI, 20, .inl s_xs)), (aYs, .inl (cI, 20, .inl s_ys)), (gM, .inr (3, [.ref aKe, .ref aFs, .int s_mn, .ref aLi, .ref aWa, .int s_wn, .ref aRi, .int s_rn])), (aRi, .inl (cI, 20, .inl (upd s_ri x3.toNatClampNeg x2)))] := hD
  refine lv_aload_n hx hb d_M_addToRing_59 rfl (lv_at hl 0 rfl) ?_
  refine lv_dup hx hb d_M_addToRing_60 rfl ?_
  refine va_get (D := (dC, dI)) (ci := 3) (v := .int s_rn) (C := R_M) (T := T_M) (N := 8) hx hb hts in_M hown hK.1 hP 3 rfl rfl 7 (by decide) (hts _ bw_68) (fun _ h9 => h9) rfl d_M_addToRing_61 ?_
  refine lv_iconst (v := (1 : Int32)) hx hb d_M_addToRing_64 rfl ?_
  refine lv_iadd hx hb d_M_addToRing_65 ?_
  refine va_put (D := (dC, dI)) (ci := 3) (v := .int (s_rn + (1 : Int32))) (ty := .int) (C := R_M) (T := T_M) (N := 8) hx hb hts in_M ty_M tok_M nok_M hown hK.1 hP hD hS 3 rfl rfl 7 (by decide) (hts _ bw_68) (fun _ h9 => h9) rfl (by decide +kernel) rfl rfl (Nat.le_of_ble_eq_true rfl) d_M_addToRing_66 (fun H locs hP hD hS => ?_)
  have hP : va_P (dC, dI) vwCl [(gP, .inr (1, [.ref aXs, .ref aYs, .ref aTk, .ref aOr, .int s_pn])), (aXs, .inl (cI, 20, .inl s_xs)), (aYs, .inl (cI, 20, .inl s_ys)), (gM, .inr (3, [.ref aKe, .ref aFs, .int s_mn, .ref aLi, .ref aWa, .int s_wn, .ref aRi, .int (s_rn + (1 : Int32))])), (aRi, .inl (cI, 20, .inl (upd s_ri x3.toNatClampNeg x2)))] H := hP
  have hD : va_D A [(gP, .inr (1, [.ref aXs, .ref aYs, .ref aTk, .ref aOr, .int s_pn])), (aXs, .inl (cI, 20, .inl s_xs)), (aYs, .inl (cI, 20, .inl s_ys)), (gM, .inr (3, [.ref aKe, .ref aFs, .int s_mn, .ref aLi, .ref aWa, .int s_wn, .ref aRi, .int (s_rn + (1 : Int32))])), (aRi, .inl (cI, 20, .inl (upd s_ri x3.toNatClampNeg x2)))] := hD
  cases hf
  exact wr_v hx hb hr hlocks hP hD hS d_M_addToRing_69
set_option maxHeartbeats 4000000 in
set_option maxRecDepth 100000 in
theorem t_M_addToRing_L5 {p : Program} {l : Launch} {e : Env} {s : State} {m : MethodId} {args : Array Value} {below : List Frame} {meth : Method} {c : Code} {dC : Nat → ClassId} {dI : Nat → Nat → Nat} {cI cZ : ClassId} {gP aXs aYs aTk aOr gM aKe aFs aLi aWa aRi : Nat} {s_xs : Nat → Int32} {s_ys : Nat → Int32} {s_pn : Int32} {s_mn : Int32} {s_wn : Int32} {s_ri' : Nat → Int32} {s_rn' : Int32} {A : Nat → Prop} (C0 : cx p s m args meth c b_M_addToRing none 4 R_M) (hK : gK dC dI cI cZ s) (hA : ∀ q, s.heap.size ≤ q → A q) : ∀ (n : Nat) (s_ri : Nat → Int32) (s_rn : Int32) (x2 : Int32) (x3 : Int32), f_M_addToRing_L5 s_xs s_ys n s_ri s_rn x2 x3 = some (s_ri', s_rn') → ∀ (H : Heap) (locs : List Loc), va_P (dC, dI) vwCl [(gP, .inr (1, [.ref aXs, .ref aYs, .ref aTk, .ref aOr, .int s_pn])), (aXs, .inl (cI, 20, .inl s_xs)), (aYs, .inl (cI, 20, .inl s_ys)), (gM, .inr (3, [.ref aKe, .ref aFs, .int s_mn, .ref aLi, .ref aWa, .int s_wn, .ref aRi, .int s_rn])), (aRi, .inl (cI, 20, .inl s_ri))] H → va_D A [(gP, .inr (1, [.ref aXs, .ref aYs, .ref aTk, .ref aOr, .int s_pn])), (aXs, .inl (cI, 20, .inl s_xs)), (aYs, .inl (cI, 20, .inl s_ys)), (gM, .inr (3, [.ref aKe, .ref aFs, .int s_mn, .ref aLi, .ref aWa, .int s_wn, .ref aRi, .int s_rn])), (aRi, .inl (cI, 20, .inl s_ri))] → va_S A s.heap H locs → ∀ (ls : Array Slot), lv_has ls 4 [(0, .ref gM), (1, .ref gP), (2, .int x2), (3, .int x3)] → W p l e (headSpec w_M_addToRing ({ frames := 2, cells := 0, slots := 0, locals := 55 } : Room)).room s m args below meth c H locs 0 0 (MQ below (QwV dC dI A [(gP, .inr (1, [.ref aXs, .ref aYs, .ref aTk, .ref aOr, .int s_pn])), (aXs, .inl (cI, 20, .inl s_xs)), (aYs, .inl (cI, 20, .inl s_ys)), (gM, .inr (3, [.ref aKe, .ref aFs, .int s_mn, .ref aLi, .ref aWa, .int s_wn, .ref aRi, .int s_rn'])), (aRi, .inl (cI, 20, .inl s_ri'))]) args s 0 0 A) (F0 m 5 ls []) := by
  obtain ⟨hx, hb, hr, hml, hts, hown, hlocks⟩ := id C0
  intro n
  induction n with
  | zero =>
    intro s_ri s_rn x2 x3 hf
    exact (o_n hf).elim
  | succ n ih =>
    intro s_ri s_rn x2 x3 hf H locs hP hD hS ls hl
    refine lv_iload_n hx hb d_M_addToRing_5 rfl (lv_at hl 3 rfl) ?_
    refine lv_iconst (v := (1 : Int32)) hx hb d_M_addToRing_6 rfl ?_
    refine lv_icmp_le (tgt := 52) hx hb d_M_addToRing_7 (by decide) (fun hc2 => ?_) (fun hc2 => ?_)
    · have hf := o_t hf hc2
      exact t_M_addToRing_b52 C0 hK hA  s_ri s_rn x2 x3 hf _ _ hP hD hS ls (lv_sub hl [0, 2, 3] rfl)
    · have hf := o_f hf hc2
      refine lv_aload_n hx hb d_M_addToRing_10 rfl (lv_at hl 1 rfl) ?_
      refine lv_aload_n hx hb d_M_addToRing_11 rfl (lv_at hl 0 rfl) ?_
      refine va_get (D := (dC, dI)) (ci := 3) (v := .ref aRi) (C := R_M) (T := T_M) (N := 8) hx hb hts in_M hown hK.1 hP 3 rfl rfl 6 (by decide) (hts _ bw_67) (fun _ h9 => h9) rfl d_M_addToRing_12 ?_
      refine lv_iconst (v := (0 : Int32)) hx hb d_M_addToRing_15 rfl ?_
      obtain ⟨hi3, hf⟩ := o_i hf
      refine va_iald (cA := cI) (n := 20) (f := s_ri) hx hb hK.1 hP 4 0 rfl rfl hi3 d_M_addToRing_16 ?_
      refine lv_iload_n hx hb d_M_addToRing_17 rfl (lv_at hl 2 rfl) ?_
      refine lv_aload_n hx hb d_M_addToRing_18 rfl (lv_at hl 0 rfl) ?_
      refine va_get (D := (dC, dI)) (ci := 3) (v := .ref aRi) (C := R_M) (T := T_M) (N := 8) hx hb hts in_M hown hK.1 hP 3 rfl rfl 6 (by decide) (hts _ bw_67) (fun _ h9 => h9) rfl d_M_addToRing_19 ?_
      refine lv_iload_n hx hb d_M_addToRing_22 rfl (lv_at hl 3 rfl) ?_
      refine lv_iconst (v := (1 : Int32)) hx hb d_M_addToRing_23 rfl ?_
      refine lv_isub hx hb d_M_addToRing_24 ?_
      obtain ⟨hi4, hf⟩ := o_i hf
      refine va_iald (cA := cI) (n := 20) (f := s_ri) hx hb hK.1 hP 4 0 rfl rfl hi4 d_M_addToRing_25 ?_
      obtain ⟨r5, hv7, hf⟩ := o_b hf
      refine rc_i (va_runV (As := [.int (s_ri (0 : Int32).toNatClampNeg), .int x2, .int (s_ri (x3 - (1 : Int32)).toNatClampNeg)]) (rest := []) ⟨hx, hb, hml, hown, hts⟩ (c_P_side l dC dI cI cZ gP aXs aYs aTk aOr s_xs s_ys s_pn (s_ri (0 : Int32).toNatClampNeg) x2 (s_ri (x3 - (1 : Int32)).toNatClampNeg) r5 hv7) (cwV 3 hts (gd_V bw_244 bw_182 bw_183 bw_2 bw_184) rfl rfl rfl ⟨rfl, hd_P_side⟩ ⟨Nat.le_of_ble_eq_true rfl, Nat.le_of_ble_eq_true rfl⟩) (pv_r (wc := [(gP, .inr (1, [.ref aXs, .ref aYs, .ref aTk, .ref aOr, .int s_pn])), (aXs, .inl (cI, 20, .inl s_xs)), (aYs, .inl (cI, 20, .inl s_ys))]) hK hP [0, 1, 2] rfl 0 (ci := 1) rfl rfl) rfl rfl hl.1 rfl (lv_room (Nat.le_of_ble_eq_true rfl)) d_M_addToRing_26 ⟨Nat.zero_le _, Nat.zero_le _⟩) ?_
      refine lv_if_le (tgt := 52) hx hb d_M_addToRing_29 (by decide) (fun hc8 => ?_) (fun hc8 => ?_)
      · have hf := o_t hf hc8
        exact t_M_addToRing_b52 C0 hK hA  s_ri s_rn x2 x3 hf _ _ hP hD hS ls (lv_sub hl [0, 2, 3] rfl)
      · have hf := o_f hf hc8
        refine lv_aload_n hx hb d_M_addToRing_32 rfl (lv_at hl 0 rfl) ?_
        refine va_get (D := (dC, dI)) (ci := 3) (v := .ref aRi) (C := R_M) (T := T_M) (N := 8) hx hb hts in_M hown hK.1 hP 3 rfl rfl 6 (by decide) (hts _ bw_67) (fun _ h9 => h9) rfl d_M_addToRing_33 ?_
        refine lv_iload_n hx hb d_M_addToRing_36 rfl (lv_at hl 3 rfl) ?_
        refine lv_aload_n hx hb d_M_addToRing_37 rfl (lv_at hl 0 rfl) ?_
        refine va_get (D := (dC, dI)) (ci := 3) (v := .ref aRi) (C := R_M) (T := T_M) (N := 8) hx hb hts in_M hown hK.1 hP 3 rfl rfl 6 (by decide) (hts _ bw_67) (fun _ h9 => h9) rfl d_M_addToRing_38 ?_
        refine lv_iload_n hx hb d_M_addToRing_41 rfl (lv_at hl 3 rfl) ?_
        refine lv_iconst (v := (1 : Int32)) hx hb d_M_addToRing_42 rfl ?_
        refine lv_isub hx hb d_M_addToRing_43 ?_
        obtain ⟨hi9, hf⟩ := o_i hf
        refine va_iald (cA := cI) (n := 20) (f := s_ri) hx hb hK.1 hP 4 0 rfl rfl hi9 d_M_addToRing_44 ?_
        obtain ⟨hi10, hf⟩ := o_i hf
        refine va_iast (cA := cI) (n := 20) (f := s_ri) hx hb hK.1 hP hD hS 4 0 rfl rfl hi10 d_M_addToRing_45 (fun H locs hP hD hS => ?_)
        have hP : va_P (dC, dI) vwCl [(gP, .inr (1, [.ref aXs, .ref aYs, .ref aTk, .ref aOr, .int s_pn])), (aXs, .inl (cI, 20, .inl s_xs)), (aYs, .inl (cI, 20, .inl s_ys)), (gM, .inr (3, [.ref aKe, .ref aFs, .int s_mn, .ref aLi, .ref aWa, .int s_wn, .ref aRi, .int s_rn])), (aRi, .inl (cI, 20, .inl (upd s_ri x3.toNatClampNeg (s_ri (x3 - (1 : Int32)).toNatClampNeg))))] H := hP
        have hD : va_D A [(gP, .inr (1, [.ref aXs, .ref aYs, .ref aTk, .ref aOr, .int s_pn])), (aXs, .inl (cI, 20, .inl s_xs)), (aYs, .inl (cI, 20, .inl s_ys)), (gM, .inr (3, [.ref aKe, .ref aFs, .int s_mn, .ref aLi, .ref aWa, .int s_wn, .ref aRi, .int s_rn])), (aRi, .inl (cI, 20, .inl (upd s_ri x3.toNatClampNeg (s_ri (x3 - (1 : Int32)).toNatClampNeg))))] := hD
        refine lv_iinc (v := (x3 + (-1))) (lv' := [(3, .int (x3 + (-1))), (0, .ref gM), (1, .ref gP), (2, .int x2)]) hx hb d_M_addToRing_46 hl (k := 3) rfl rfl (by decide) rfl (fun ls hl => ?_)
        refine lv_goto (tgt := 5) hx hb d_M_addToRing_49 (by decide) ?_
        exact ih (upd s_ri x3.toNatClampNeg (s_ri (x3 - (1 : Int32)).toNatClampNeg)) s_rn x2 (x3 + (-1)) hf _ _ hP hD hS ls (lv_sub hl [1, 2, 3, 0] rfl)
set_option maxHeartbeats 4000000 in
set_option maxRecDepth 100000 in
theorem t_M_addToRing_e {p : Program} {l : Launch} {e : Env} {s : State} {m : MethodId} {args : Array Value} {below : List Frame} {meth : Method} {c : Code} {dC : Nat → ClassId} {dI : Nat → Nat → Nat} {cI cZ : ClassId} {gP aXs aYs aTk aOr gM aKe aFs aLi aWa aRi : Nat} {s_xs : Nat → Int32} {s_ys : Nat → Int32} {s_pn : Int32} {s_mn : Int32} {s_wn : Int32} {s_ri' : Nat → Int32} {s_rn' : Int32} {A : Nat → Prop} (C0 : cx p s m args meth c b_M_addToRing none 4 R_M) (hK : gK dC dI cI cZ s) (hA : ∀ q, s.heap.size ≤ q → A q) : ∀ (s_ri : Nat → Int32) (s_rn : Int32) (x2 : Int32), f_M_addToRing s_xs s_ys s_ri s_rn x2 = some (s_ri', s_rn') → ∀ (H : Heap) (locs : List Loc), va_P (dC, dI) vwCl [(gP, .inr (1, [.ref aXs, .ref aYs, .ref aTk, .ref aOr, .int s_pn])), (aXs, .inl (cI, 20, .inl s_xs)), (aYs, .inl (cI, 20, .inl s_ys)), (gM, .inr (3, [.ref aKe, .ref aFs, .int s_mn, .ref aLi, .ref aWa, .int s_wn, .ref aRi, .int s_rn])), (aRi, .inl (cI, 20, .inl s_ri))] H → va_D A [(gP, .inr (1, [.ref aXs, .ref aYs, .ref aTk, .ref aOr, .int s_pn])), (aXs, .inl (cI, 20, .inl s_xs)), (aYs, .inl (cI, 20, .inl s_ys)), (gM, .inr (3, [.ref aKe, .ref aFs, .int s_mn, .ref aLi, .ref aWa, .int s_wn, .ref aRi, .int s_rn])), (aRi, .inl (cI, 20, .inl s_ri))] → va_S A s.heap H locs → ∀ (ls : Array Slot), lv_has ls 4 [(0, .ref gM), (1, .ref gP), (2, .int x2)] → W p l e (headSpec w_M_addToRing ({ frames := 2, cells := 0, slots := 0, locals := 55 } : Room)).room s m args below meth c H locs 0 0 (MQ below (QwV dC dI A [(gP, .inr (1, [.ref aXs, .ref aYs, .ref aTk, .ref aOr, .int s_pn])), (aXs, .inl (cI, 20, .inl s_xs)), (aYs, .inl (cI, 20, .inl s_ys)), (gM, .inr (3, [.ref aKe, .ref aFs, .int s_mn, .ref aLi, .ref aWa, .int s_wn, .ref aRi, .int s_rn'])), (aRi, .inl (cI, 20, .inl s_ri'))]) args s 0 0 A) (F0 m 0 ls []) := by
  obtain ⟨hx, hb, hr, hml, hts, hown, hlocks⟩ := id C0
  intro s_ri s_rn x2 hf H locs hP hD hS ls hl
  refine lv_aload_n hx hb d_M_addToRing_0 rfl (lv_at hl 0 rfl) ?_
  refine va_get (D := (dC, dI)) (ci := 3) (v := .int s_rn) (C := R_M) (T := T_M) (N := 8) hx hb hts in_M hown hK.1 hP 3 rfl rfl 7 (by decide) (hts _ bw_68) (fun _ h9 => h9) rfl d_M_addToRing_1 ?_
  refine lv_istore_n (lv' := [(3, .int s_rn), (0, .ref gM), (1, .ref gP), (2, .int x2)]) hx hb d_M_addToRing_4 rfl hl (by decide) rfl (fun ls hl => ?_)
  exact t_M_addToRing_L5 C0 hK hA  600 s_ri s_rn x2 s_rn hf _ _ hP hD hS ls (lv_sub hl [1, 2, 3, 0] rfl)
set_option maxHeartbeats 4000000 in
set_option maxRecDepth 100000 in
theorem c_M_addToRing (l : Launch) (dC : Nat → ClassId) (dI : Nat → Nat → Nat) (cI cZ : ClassId) (gP aXs aYs aTk aOr gM aKe aFs aLi aWa aRi : Nat) (s_xs : Nat → Int32) (s_ys : Nat → Int32) (s_pn : Int32) (s_mn : Int32) (s_wn : Int32) (s_ri : Nat → Int32) (s_rn : Int32) (x2 : Int32) (s_ri' : Nat → Int32) (s_rn' : Int32) (sz : Nat) (hf : f_M_addToRing s_xs s_ys s_ri s_rn x2 = some (s_ri', s_rn')) : Met l y_M_addToRing w_M_addToRing ({ frames := 2, cells := 0, slots := 0, locals := 55 } : Room) (PcW dC dI cI cZ [.ref gM, .ref gP, .int x2] [(gP, .inr (1, [.ref aXs, .ref aYs, .ref aTk, .ref aOr, .int s_pn])), (aXs, .inl (cI, 20, .inl s_xs)), (aYs, .inl (cI, 20, .inl s_ys)), (gM, .inr (3, [.ref aKe, .ref aFs, .int s_mn, .ref aLi, .ref aWa, .int s_wn, .ref aRi, .int s_rn])), (aRi, .inl (cI, 20, .inl s_ri))] sz) (QwV dC dI (va_A [(gP, .inr (1, [.ref aXs, .ref aYs, .ref aTk, .ref aOr, .int s_pn])), (aXs, .inl (cI, 20, .inl s_xs)), (aYs, .inl (cI, 20, .inl s_ys)), (gM, .inr (3, [.ref aKe, .ref aFs, .int s_mn, .ref aLi, .ref aWa, .int s_wn, .ref aRi, .int s_rn])), (aRi, .inl (cI, 20, .inl s_ri))] sz) [(gP, .inr (1, [.ref aXs, .ref aYs, .ref aTk, .ref aOr, .int s_pn])), (aXs, .inl (cI, 20, .inl s_xs)), (aYs, .inl (cI, 20, .inl s_ys)), (gM, .inr (3, [.ref aKe, .ref aFs, .int s_mn, .ref aLi, .ref aWa, .int s_wn, .ref aRi, .int s_rn'])), (aRi, .inl (cI, 20, .inl s_ri'))]) 0 0 (va_A [(gP, .inr (1, [.ref aXs, .ref aYs, .ref aTk, .ref aOr, .int s_pn])), (aXs, .inl (cI, 20, .inl s_xs)), (aYs, .inl (cI, 20, .inl s_ys)), (gM, .inr (3, [.ref aKe, .ref aFs, .int s_mn, .ref aLi, .ref aWa, .int s_wn, .ref aRi, .int s_rn])), (aRi, .inl (cI, 20, .inl s_ri))] sz) := by
  refine Met.ofW (cc := b_M_addToRing) (maxL := 4) (ret := none) (by decide) rfl ?_
  intro p e s m args below meth c s₁ B hml hv
  obtain ⟨rfl, hsz, hP, hK, hD0⟩ := hv
  have C0 : cx p s m _ meth c b_M_addToRing none 4 R_M := ⟨B.exec, B.bytes, B.returns, hml, fun w hw => atoms_spec (ws := w_M_addToRing) B.pre w (List.mem_cons_of_mem _ hw), findClass_of_methodNamed B.named, B.notSynchronized⟩
  subst hsz
  have hD := hD0.self (sz := s.heap.size)
  generalize hAe : va_A [(gP, .inr (1, [.ref aXs, .ref aYs, .ref aTk, .ref aOr, .int s_pn])), (aXs, .inl (cI, 20, .inl s_xs)), (aYs, .inl (cI, 20, .inl s_ys)), (gM, .inr (3, [.ref aKe, .ref aFs, .int s_mn, .ref aLi, .ref aWa, .int s_wn, .ref aRi, .int s_rn])), (aRi, .inl (cI, 20, .inl s_ri))] s.heap.size = A at hD ⊢
  have hA : ∀ q : Nat, s.heap.size ≤ q → A q := fun q h => by rw [← hAe]; exact Or.inr h
  have hl := lv_entry ([.ref gM, .ref gP, .int x2]) (n := 4) (Nat.le_of_ble_eq_true rfl)
  rw [lg_entry_eq]
  generalize (lg_sl ([.ref gM, .ref gP, .int x2]) ++ List.replicate (4 - (lg_sl ([.ref gM, .ref gP, .int x2])).length) Slot.unset).toArray = ls at hl ⊢
  have hl : lv_has ls 4 [(0, .ref gM), (1, .ref gP), (2, .int x2)] := hl
  exact t_M_addToRing_e C0 hK hA s_ri s_rn x2 hf _ _ hP hD va_S.rf ls hl
set_option maxHeartbeats 4000000 in
set_option maxRecDepth 100000 in
theorem t_M_gatherRing_L8 {p : Program} {l : Launch} {e : Env} {s : State} {m : MethodId} {args : Array Value} {below : List Frame} {meth : Method} {c : Code} {dC : Nat → ClassId} {dI : Nat → Nat → Nat} {cI cZ : ClassId} {gP aXs aYs aTk aOr gM aKe aFs aLi aWa aRi : Nat} {s_xs : Nat → Int32} {s_ys : Nat → Int32} {s_or : Nat → Int32} {s_pn : Int32} {s_mn : Int32} {s_wn : Int32} {s_ri' : Nat → Int32} {s_rn' : Int32} {A : Nat → Prop} (C0 : cx p s m args meth c b_M_gatherRing none 7 R_M) (hK : gK dC dI cI cZ s) (hA : ∀ q, s.heap.size ≤ q → A q) : ∀ (n : Nat) (s_ri : Nat → Int32) (s_rn : Int32) (x2 : Int32) (x3 : Int32) (x4 : Int32) (x5 : Int32), f_M_gatherRing_L8 s_xs s_ys s_or s_pn n s_ri s_rn x2 x3 x4 x5 = some (s_ri', s_rn') → ∀ (H : Heap) (locs : List Loc), va_P (dC, dI) vwCl [(gP, .inr (1, [.ref aXs, .ref aYs, .ref aTk, .ref aOr, .int s_pn])), (aXs, .inl (cI, 20, .inl s_xs)), (aYs, .inl (cI, 20, .inl s_ys)), (aOr, .inl (cI, 20, .inl s_or)), (gM, .inr (3, [.ref aKe, .ref aFs, .int s_mn, .ref aLi, .ref aWa, .int s_wn, .ref aRi, .int s_rn])), (aRi, .inl (cI, 20, .inl s_ri))] H → va_D A [(gP, .inr (1, [.ref aXs, .ref aYs, .ref aTk, .ref aOr, .int s_pn])), (aXs, .inl (cI, 20, .inl s_xs)), (aYs, .inl (cI, 20, .inl s_ys)), (aOr, .inl (cI, 20, .inl s_or)), (gM, .inr (3, [.ref aKe, .ref aFs, .int s_mn, .ref aLi, .ref aWa, .int s_wn, .ref aRi, .int s_rn])), (aRi, .inl (cI, 20, .inl s_ri))] → va_S A s.heap H locs → ∀ (ls : Array Slot), lv_has ls 7 [(0, .ref gM), (1, .ref gP), (2, .int x2), (3, .int x3), (4, .int x4), (5, .int x5)] → W p l e (headSpec w_M_gatherRing ({ frames := 3, cells := 0, slots := 0, locals := 94 } : Room)).room s m args below meth c H locs 0 0 (MQ below (QwV dC dI A [(gP, .inr (1, [.ref aXs, .ref aYs, .ref aTk, .ref aOr, .int s_pn])), (aXs, .inl (cI, 20, .inl s_xs)), (aYs, .inl (cI, 20, .inl s_ys)), (aOr, .inl (cI, 20, .inl s_or)), (gM, .inr (3, [.ref aKe, .ref aFs, .int s_mn, .ref aLi, .ref aWa, .int s_wn, .ref aRi, .int s_rn'])), (aRi, .inl (cI, 20, .inl s_ri'))]) args s 0 0 A) (F0 m 8 ls []) := by
  obtain ⟨hx, hb, hr, hml, hts, hown, hlocks⟩ := id C0
  intro n
  induction n with
  | zero =>
    intro s_ri s_rn x2 x3 x4 x5 hf
    exact (o_n hf).elim
  | succ n ih =>
    intro s_ri s_rn x2 x3 x4 x5 hf H locs hP hD hS ls hl
    refine lv_iload hx hb d_M_gatherRing_8 (lv_at hl 5 rfl) ?_
    refine lv_aload_n hx hb d_M_gatherRing_10 rfl (lv_at hl 1 rfl) ?_
    obtain ⟨r1, hv3, hf⟩ := o_b hf
    refine rc_i (va_runV (As := []) (rest := [.int x5]) ⟨hx, hb, hml, hown, hts⟩ (c_P_size l dC dI cI cZ gP aXs aYs aTk aOr s_pn r1 hv3) (cwV 0 hts (gd_V bw_242 bw_145 bw_146 bw_2 bw_147) rfl rfl rfl ⟨rfl, hd_P_size⟩ ⟨Nat.le_of_ble_eq_true rfl, Nat.le_of_ble_eq_true rfl⟩) (pv_r (wc := [(gP, .inr (1, [.ref aXs, .ref aYs, .ref aTk, .ref aOr, .int s_pn]))]) hK hP [0] rfl 0 (ci := 1) rfl rfl) rfl rfl hl.1 rfl (lv_room (Nat.le_of_ble_eq_true rfl)) d_M_gatherRing_11 ⟨Nat.zero_le _, Nat.zero_le _⟩) ?_
    refine lv_icmp_ge (tgt := 51) hx hb d_M_gatherRing_14 (by decide) (fun hc4 => ?_) (fun hc4 => ?_)
    · have hf := o_t hf hc4
      cases hf
      exact wr_v hx hb hr hlocks hP hD hS d_M_gatherRing_51
    · have hf := o_f hf hc4
      refine lv_aload_n hx hb d_M_gatherRing_17 rfl (lv_at hl 1 rfl) ?_
      refine lv_iload hx hb d_M_gatherRing_18 (lv_at hl 5 rfl) ?_
      obtain ⟨r5, hv7, hf⟩ := o_b hf
      refine rc_i (va_runV (As := [.int x5]) (rest := []) ⟨hx, hb, hml, hown, hts⟩ (c_P_inOrder l dC dI cI cZ gP aXs aYs aTk aOr s_or s_pn x5 r5 hv7) (cwV 1 hts (gd_V bw_243 bw_178 bw_179 bw_2 bw_180) rfl rfl rfl ⟨rfl, hd_P_inOrder⟩ ⟨Nat.le_of_ble_eq_true rfl, Nat.le_of_ble_eq_true rfl⟩) (pv_r (wc := [(gP, .inr (1, [.ref aXs, .ref aYs, .ref aTk, .ref aOr, .int s_pn])), (aOr, .inl (cI, 20, .inl s_or))]) hK hP [0, 3] rfl 0 (ci := 1) rfl rfl) rfl rfl hl.1 rfl (lv_room (Nat.le_of_ble_eq_true rfl)) d_M_gatherRing_20 ⟨Nat.zero_le _, Nat.zero_le _⟩) ?_
      refine lv_istore (lv' := [(6, .int r5), (0, .ref gM), (1, .ref gP), (2, .int x2), (3, .int x3), (4, .int x4), (5, .int x5)]) hx hb d_M_gatherRing_23 hl (by decide) rfl (fun ls hl => ?_)
      refine lv_aload_n hx hb d_M_gatherRing_25 rfl (lv_at hl 2 rfl) ?_
      refine lv_iload_n hx hb d_M_gatherRing_26 rfl (lv_at hl 3 rfl) ?_
      refine lv_iload_n hx hb d_M_gatherRing_27 rfl (lv_at hl 4 rfl) ?_
      refine lv_iload hx hb d_M_gatherRing_28 (lv_at hl 5 rfl) ?_
      refine lv_iload hx hb d_M_gatherRing_30 (lv_at hl 0 rfl) ?_
      obtain ⟨r8, hv10, hf⟩ := o_b hf
      refine rc_i (va_runV (As := [.int x2, .int x3, .int x4, .int r5]) (rest := []) ⟨hx, hb, hml, hown, hts⟩ (c_P_circleSide l dC dI cI cZ gP aXs aYs aTk aOr s_xs s_ys s_pn x2 x3 x4 r5 r8 hv10) (cwV 4 hts (gd_V bw_245 bw_246 bw_247 bw_2 bw_248) rfl rfl rfl ⟨rfl, hd_P_circleSide⟩ ⟨Nat.le_of_ble_eq_true rfl, Nat.le_of_ble_eq_true rfl⟩) (pv_r (wc := [(gP, .inr (1, [.ref aXs, .ref aYs, .ref aTk, .ref aOr, .int s_pn])), (aXs, .inl (cI, 20, .inl s_xs)), (aYs, .inl (cI, 20, .inl s_ys))]) hK hP [0, 1, 2] rfl 0 (ci := 1) rfl rfl) rfl rfl hl.1 rfl (lv_room (Nat.le_of_ble_eq_true rfl)) d_M_gatherRing_32 ⟨Nat.zero_le _, Nat.zero_le _⟩) ?_
      refine lv_if_ne (tgt := 45) hx hb d_M_gatherRing_35 (by decide) (fun hc11 => ?_) (fun hc11 => ?_)
      · have hf := o_f hf hc11
        refine lv_iinc (v := (x5 + 1)) (lv' := [(5, .int (x5 + 1)), (6, .int r5), (0, .ref gM), (1, .ref gP), (2, .int x2), (3, .int x3), (4, .int x4)]) hx hb d_M_gatherRing_45 hl (k := 6) rfl rfl (by decide) rfl (fun ls hl => ?_)
        refine lv_goto (tgt := 8) hx hb d_M_gatherRing_48 (by decide) ?_
        exact ih s_ri s_rn x2 x3 x4 (x5 + 1) hf _ _ hP hD hS ls (lv_sub hl [2, 3, 4, 5, 6, 0] rfl)
      · have hf := o_t hf hc11
        refine lv_aload_n hx hb d_M_gatherRing_38 rfl (lv_at hl 1 rfl) ?_
        refine lv_aload_n hx hb d_M_gatherRing_39 rfl (lv_at hl 2 rfl) ?_
        refine lv_iload hx hb d_M_gatherRing_40 (lv_at hl 0 rfl) ?_
        obtain ⟨⟨r12, r13⟩, hv15, hf⟩ := o_b hf
        refine wc_v (wr := [(aOr, .inl (cI, 20, .inl s_or))]) (w1 := [(gP, .inr (1, [.ref aXs, .ref aYs, .ref aTk, .ref aOr, .int s_pn])), (aXs, .inl (cI, 20, .inl s_xs)), (aYs, .inl (cI, 20, .inl s_ys)), (gM, .inr (3, [.ref aKe, .ref aFs, .int s_mn, .ref aLi, .ref aWa, .int s_wn, .ref aRi, .int r13])), (aRi, .inl (cI, 20, .inl r12))]) (va_runV (As := [.ref gP, .int r5]) (rest := []) ⟨hx, hb, hml, hown, hts⟩ (c_M_addToRing l dC dI cI cZ gP aXs aYs aTk aOr gM aKe aFs aLi aWa aRi s_xs s_ys s_pn s_mn s_wn s_ri s_rn r5 r12 r13 H.size hv15) (cwV 2 hts (gd_V bw_257 bw_259 bp_9 bw_4 bw_260) rfl rfl rfl ⟨rfl, hd_M_addToRing⟩ ⟨Nat.le_of_ble_eq_true rfl, Nat.le_of_ble_eq_true rfl⟩) (pv_w (wc := [(gP, .inr (1, [.ref aXs, .ref aYs, .ref aTk, .ref aOr, .int s_pn])), (aXs, .inl (cI, 20, .inl s_xs)), (aYs, .inl (cI, 20, .inl s_ys)), (gM, .inr (3, [.ref aKe, .ref aFs, .int s_mn, .ref aLi, .ref aWa, .int s_wn, .ref aRi, .int s_rn])), (aRi, .inl (cI, 20, .inl s_ri))]) hK hP hD [0, 1, 2, 4, 5] rfl rfl (by decide) 3 (ci := 3) rfl rfl) rfl rfl hl.1 rfl (lv_room (Nat.le_of_ble_eq_true rfl)) d_M_gatherRing_42 ⟨Nat.zero_le _, Nat.zero_le _⟩) hP hD hS hA [0, 1, 2, 4, 5] [3] rfl rfl (by decide) (by decide) (fun H locs hP hD hS => ?_)
        have hP : va_P (dC, dI) vwCl [(gP, .inr (1, [.ref aXs, .ref aYs, .ref aTk, .ref aOr, .int s_pn])), (aXs, .inl (cI, 20, .inl s_xs)), (aYs, .inl (cI, 20, .inl s_ys)), (aOr, .inl (cI, 20, .inl s_or)), (gM, .inr (3, [.ref aKe, .ref aFs, .int s_mn, .ref aLi, .ref aWa, .int s_wn, .ref aRi, .int r13])), (aRi, .inl (cI, 20, .inl r12))] H := hP.sub [1, 2, 3, 0, 4, 5] rfl
        have hD : va_D A [(gP, .inr (1, [.ref aXs, .ref aYs, .ref aTk, .ref aOr, .int s_pn])), (aXs, .inl (cI, 20, .inl s_xs)), (aYs, .inl (cI, 20, .inl s_ys)), (aOr, .inl (cI, 20, .inl s_or)), (gM, .inr (3, [.ref aKe, .ref aFs, .int s_mn, .ref aLi, .ref aWa, .int s_wn, .ref aRi, .int r13])), (aRi, .inl (cI, 20, .inl r12))] := hD.sub [1, 2, 3, 0, 4, 5] (by decide) rfl
        refine lv_iinc (v := (x5 + 1)) (lv' := [(5, .int (x5 + 1)), (6, .int r5), (0, .ref gM), (1, .ref gP), (2, .int x2), (3, .int x3), (4, .int x4)]) hx hb d_M_gatherRing_45 hl (k := 6) rfl rfl (by decide) rfl (fun ls hl => ?_)
        refine lv_goto (tgt := 8) hx hb d_M_gatherRing_48 (by decide) ?_
        exact ih r12 r13 x2 x3 x4 (x5 + 1) hf _ _ hP hD hS ls (lv_sub hl [2, 3, 4, 5, 6, 0] rfl)
set_option maxHeartbeats 4000000 in
set_option maxRecDepth 100000 in
theorem t_M_gatherRing_e {p : Program} {l : Launch} {e : Env} {s : State} {m : MethodId} {args : Array Value} {below : List Frame} {meth : Method} {c : Code} {dC : Nat → ClassId} {dI : Nat → Nat → Nat} {cI cZ : ClassId} {gP aXs aYs aTk aOr gM aKe aFs aLi aWa aRi : Nat} {s_xs : Nat → Int32} {s_ys : Nat → Int32} {s_or : Nat → Int32} {s_pn : Int32} {s_mn : Int32} {s_wn : Int32} {s_ri' : Nat → Int32} {s_rn' : Int32} {A : Nat → Prop} (C0 : cx p s m args meth c b_M_gatherRing none 7 R_M) (hK : gK dC dI cI cZ s) (hA : ∀ q, s.heap.size ≤ q → A q) : ∀ (s_ri : Nat → Int32) (s_rn : Int32) (x2 : Int32) (x3 : Int32) (x4 : Int32), f_M_gatherRing s_xs s_ys s_or s_pn s_ri s_rn x2 x3 x4 = some (s_ri', s_rn') → ∀ (H : Heap) (locs : List Loc), va_P (dC, dI) vwCl [(gP, .inr (1, [.ref aXs, .ref aYs, .ref aTk, .ref aOr, .int s_pn])), (aXs, .inl (cI, 20, .inl s_xs)), (aYs, .inl (cI, 20, .inl s_ys)), (aOr, .inl (cI, 20, .inl s_or)), (gM, .inr (3, [.ref aKe, .ref aFs, .int s_mn, .ref aLi, .ref aWa, .int s_wn, .ref aRi, .int s_rn])), (aRi, .inl (cI, 20, .inl s_ri))] H → va_D A [(gP, .inr (1, [.ref aXs, .ref aYs, .ref aTk, .ref aOr, .int s_pn])), (aXs, .inl (cI, 20, .inl s_xs)), (aYs, .inl (cI, 20, .inl s_ys)), (aOr, .inl (cI, 20, .inl s_or)), (gM, .inr (3, [.ref aKe, .ref aFs, .int s_mn, .ref aLi, .ref aWa, .int s_wn, .ref aRi, .int s_rn])), (aRi, .inl (cI, 20, .inl s_ri))] → va_S A s.heap H locs → ∀ (ls : Array Slot), lv_has ls 7 [(0, .ref gM), (1, .ref gP), (2, .int x2), (3, .int x3), (4, .int x4)] → W p l e (headSpec w_M_gatherRing ({ frames := 3, cells := 0, slots := 0, locals := 94 } : Room)).room s m args below meth c H locs 0 0 (MQ below (QwV dC dI A [(gP, .inr (1, [.ref aXs, .ref aYs, .ref aTk, .ref aOr, .int s_pn])), (aXs, .inl (cI, 20, .inl s_xs)), (aYs, .inl (cI, 20, .inl s_ys)), (aOr, .inl (cI, 20, .inl s_or)), (gM, .inr (3, [.ref aKe, .ref aFs, .int s_mn, .ref aLi, .ref aWa, .int s_wn, .ref aRi, .int s_rn'])), (aRi, .inl (cI, 20, .inl s_ri'))]) args s 0 0 A) (F0 m 0 ls []) := by
  obtain ⟨hx, hb, hr, hml, hts, hown, hlocks⟩ := id C0
  intro s_ri s_rn x2 x3 x4 hf H locs hP hD hS ls hl
  refine lv_aload_n hx hb d_M_gatherRing_0 rfl (lv_at hl 0 rfl) ?_
  refine lv_iconst (v := (0 : Int32)) hx hb d_M_gatherRing_1 rfl ?_
  refine va_put (D := (dC, dI)) (ci := 3) (v := .int (0 : Int32)) (ty := .int) (C := R_M) (T := T_M) (N := 8) hx hb hts in_M ty_M tok_M nok_M hown hK.1 hP hD hS 4 rfl rfl 7 (by decide) (hts _ bw_68) (fun _ h9 => h9) rfl (by decide +kernel) rfl rfl (Nat.le_of_ble_eq_true rfl) d_M_gatherRing_2 (fun H locs hP hD hS => ?_)
  have hP : va_P (dC, dI) vwCl [(gP, .inr (1, [.ref aXs, .ref aYs, .ref aTk, .ref aOr, .int s_pn])), (aXs, .inl (cI, 20, .inl s_xs)), (aYs, .inl (cI, 20, .inl s_ys)), (aOr, .inl (cI, 20, .inl s_or)), (gM, .inr (3, [.ref aKe, .ref aFs, .int s_mn, .ref aLi, .ref aWa, .int s_wn, .ref aRi, .int (0 : Int32)])), (aRi, .inl (cI, 20, .inl s_ri))] H := hP
  have hD : va_D A [(gP, .inr (1, [.ref aXs, .ref aYs, .ref aTk, .ref aOr, .int s_pn])), (aXs, .inl (cI, 20, .inl s_xs)), (aYs, .inl (cI, 20, .inl s_ys)), (aOr, .inl (cI, 20, .inl s_or)), (gM, .inr (3, [.ref aKe, .ref aFs, .int s_mn, .ref aLi, .ref aWa, .int s_wn, .ref aRi, .int (0 : Int32)])), (aRi, .inl (cI, 20, .inl s_ri))] := hD
  refine lv_iconst (v := (0 : Int32)) hx hb d_M_gatherRing_5 rfl ?_
  refine lv_istore (lv' := [(5, .int (0 : Int32)), (0, .ref gM), (1, .ref gP), (2, .int x2), (3, .int x3), (4, .int x4)]) hx hb d_M_gatherRing_6 hl (by decide) rfl (fun ls hl => ?_)
  exact t_M_gatherRing_L8 C0 hK hA  600 s_ri (0 : Int32) x2 x3 x4 (0 : Int32) hf _ _ hP hD hS ls (lv_sub hl [1, 2, 3, 4, 5, 0] rfl)
set_option maxHeartbeats 4000000 in
set_option maxRecDepth 100000 in
theorem c_M_gatherRing (l : Launch) (dC : Nat → ClassId) (dI : Nat → Nat → Nat) (cI cZ : ClassId) (gP aXs aYs aTk aOr gM aKe aFs aLi aWa aRi : Nat) (s_xs : Nat → Int32) (s_ys : Nat → Int32) (s_or : Nat → Int32) (s_pn : Int32) (s_mn : Int32) (s_wn : Int32) (s_ri : Nat → Int32) (s_rn : Int32) (x2 : Int32) (x3 : Int32) (x4 : Int32) (s_ri' : Nat → Int32) (s_rn' : Int32) (sz : Nat) (hf : f_M_gatherRing s_xs s_ys s_or s_pn s_ri s_rn x2 x3 x4 = some (s_ri', s_rn')) : Met l y_M_gatherRing w_M_gatherRing ({ frames := 3, cells := 0, slots := 0, locals := 94 } : Room) (PcW dC dI cI cZ [.ref gM, .ref gP, .int x2, .int x3, .int x4] [(gP, .inr (1, [.ref aXs, .ref aYs, .ref aTk, .ref aOr, .int s_pn])), (aXs, .inl (cI, 20, .inl s_xs)), (aYs, .inl (cI, 20, .inl s_ys)), (aOr, .inl (cI, 20, .inl s_or)), (gM, .inr (3, [.ref aKe, .ref aFs, .int s_mn, .ref aLi, .ref aWa, .int s_wn, .ref aRi, .int s_rn])), (aRi, .inl (cI, 20, .inl s_ri))] sz) (QwV dC dI (va_A [(gP, .inr (1, [.ref aXs, .ref aYs, .ref aTk, .ref aOr, .int s_pn])), (aXs, .inl (cI, 20, .inl s_xs)), (aYs, .inl (cI, 20, .inl s_ys)), (aOr, .inl (cI, 20, .inl s_or)), (gM, .inr (3, [.ref aKe, .ref aFs, .int s_mn, .ref aLi, .ref aWa, .int s_wn, .ref aRi, .int s_rn])), (aRi, .inl (cI, 20, .inl s_ri))] sz) [(gP, .inr (1, [.ref aXs, .ref aYs, .ref aTk, .ref aOr, .int s_pn])), (aXs, .inl (cI, 20, .inl s_xs)), (aYs, .inl (cI, 20, .inl s_ys)), (aOr, .inl (cI, 20, .inl s_or)), (gM, .inr (3, [.ref aKe, .ref aFs, .int s_mn, .ref aLi, .ref aWa, .int s_wn, .ref aRi, .int s_rn'])), (aRi, .inl (cI, 20, .inl s_ri'))]) 0 0 (va_A [(gP, .inr (1, [.ref aXs, .ref aYs, .ref aTk, .ref aOr, .int s_pn])), (aXs, .inl (cI, 20, .inl s_xs)), (aYs, .inl (cI, 20, .inl s_ys)), (aOr, .inl (cI, 20, .inl s_or)), (gM, .inr (3, [.ref aKe, .ref aFs, .int s_mn, .ref aLi, .ref aWa, .int s_wn, .ref aRi, .int s_rn])), (aRi, .inl (cI, 20, .inl s_ri))] sz) := by
  refine Met.ofW (cc := b_M_gatherRing) (maxL := 7) (ret := none) (by decide) rfl ?_
  intro p e s m args below meth c s₁ B hml hv
  obtain ⟨rfl, hsz, hP, hK, hD0⟩ := hv
  have C0 : cx p s m _ meth c b_M_gatherRing none 7 R_M := ⟨B.exec, B.bytes, B.returns, hml, fun w hw => atoms_spec (ws := w_M_gatherRing) B.pre w (List.mem_cons_of_mem _ hw), findClass_of_methodNamed B.named, B.notSynchronized⟩
  subst hsz
  have hD := hD0.self (sz := s.heap.size)
  generalize hAe : va_A [(gP, .inr (1, [.ref aXs, .ref aYs, .ref aTk, .ref aOr, .int s_pn])), (aXs, .inl (cI, 20, .inl s_xs)), (aYs, .inl (cI, 20, .inl s_ys)), (aOr, .inl (cI, 20, .inl s_or)), (gM, .inr (3, [.ref aKe, .ref aFs, .int s_mn, .ref aLi, .ref aWa, .int s_wn, .ref aRi, .int s_rn])), (aRi, .inl (cI, 20, .inl s_ri))] s.heap.size = A at hD ⊢
  have hA : ∀ q : Nat, s.heap.size ≤ q → A q := fun q h => by rw [← hAe]; exact Or.inr h
  have hl := lv_entry ([.ref gM, .ref gP, .int x2, .int x3, .int x4]) (n := 7) (Nat.le_of_ble_eq_true rfl)
  rw [lg_entry_eq]
  generalize (lg_sl ([.ref gM, .ref gP, .int x2, .int x3, .int x4]) ++ List.replicate (7 - (lg_sl ([.ref gM, .ref gP, .int x2, .int x3, .int x4])).length) Slot.unset).toArray = ls at hl ⊢
  have hl : lv_has ls 7 [(0, .ref gM), (1, .ref gP), (2, .int x2), (3, .int x3), (4, .int x4)] := hl
  exact t_M_gatherRing_e C0 hK hA s_ri s_rn x2 x3 x4 hf _ _ hP hD va_S.rf ls hl
set_option maxHeartbeats 4000000 in
set_option maxRecDepth 100000 in
theorem t_M_addTriangle_b84 {p : Program} {l : Launch} {e : Env} {s : State} {m : MethodId} {args : Array Value} {below : List Frame} {meth : Method} {c : Code} {dC : Nat → ClassId} {dI : Nat → Nat → Nat} {cI cZ : ClassId} {gM aKe aFs aLi aWa aRi : Nat} {s_wn : Int32} {s_rn : Int32} {s_ke' : Nat → Int32} {s_fs' : Nat → Int32} {s_mn' : Int32} {A : Nat → Prop} (C0 : cx p s m args meth c b_M_addTriangle none 6 R_M) (hK : gK dC dI cI cZ s) (hA : ∀ q, s.heap.size ≤ q → A q) : ∀ (s_ke : Nat → Int32) (s_fs : Nat → Int32) (s_mn : Int32) (x4 : Int32) (x5 : Int32), f_M_addTriangle_b84 s_rn s_ke s_fs s_mn x4 x5 = some (s_ke', s_fs', s_mn') → ∀ (H : Heap) (locs : List Loc), va_P (dC, dI) vwCl [(gM, .inr (3, [.ref aKe, .ref aFs, .int s_mn, .ref aLi, .ref aWa, .int s_wn, .ref aRi, .int s_rn])), (aKe, .inl (cI, 35, .inl s_ke)), (aFs, .inl (cI, 35, .inl s_fs))] H → va_D A [(gM, .inr (3, [.ref aKe, .ref aFs, .int s_mn, .ref aLi, .ref aWa, .int s_wn, .ref aRi, .int s_rn])), (aKe, .inl (cI, 35, .inl s_ke)), (aFs, .inl (cI, 35, .inl s_fs))] → va_S A s.heap H locs → ∀ (ls : Array Slot), lv_has ls 6 [(0, .ref gM), (4, .int x4), (5, .int x5)] → W p l e (headSpec w_M_addTriangle ({ frames := 0, cells := 0, slots := 0, locals := 0 } : Room)).room s m args below meth c H locs 0 0 (MQ below (QwV dC dI A [(gM, .inr (3, [.ref aKe, .ref aFs, .int s_mn', .ref aLi, .ref aWa, .int s_wn, .ref aRi, .int s_rn])), (aKe, .inl (cI, 35, .inl s_ke')), (aFs, .inl (cI, 35, .inl s_fs'))]) args s 0 0 A) (F0 m 84 ls []) := by
  obtain ⟨hx, hb, hr, hml, hts, hown, hlocks⟩ := id C0
  intro s_ke s_fs s_mn x4 x5 hf H locs hP hD hS ls hl
  refine lv_aload_n hx hb d_M_addTriangle_84 rfl (lv_at hl 0 rfl) ?_
  refine va_get (D := (dC, dI)) (ci := 3) (v := .ref aKe) (C := R_M) (T := T_M) (N := 8) hx hb hts in_M hown hK.1 hP 0 rfl rfl 0 (by decide) (hts _ bw_61) (fun _ h9 => h9) rfl d_M_addTriangle_85 ?_
  refine lv_iload hx hb d_M_addTriangle_88 (lv_at hl 2 rfl) ?_
  refine lv_iload hx hb d_M_addTriangle_90 (lv_at hl 1 rfl) ?_
  obtain ⟨hi1, hf⟩ := o_i hf
  refine va_iast (cA := cI) (n := 35) (f := s_ke) hx hb hK.1 hP hD hS 1 0 rfl rfl hi1 d_M_addTriangle_92 (fun H locs hP hD hS => ?_)
  have hP : va_P (dC, dI) vwCl [(gM, .inr (3, [.ref aKe, .ref aFs, .int s_mn, .ref aLi, .ref aWa, .int s_wn, .ref aRi, .int s_rn])), (aKe, .inl (cI, 35, .inl (upd s_ke x5.toNatClampNeg x4))), (aFs, .inl (cI, 35, .inl s_fs))] H := hP
  have hD : va_D A [(gM, .inr (3, [.ref aKe, .ref aFs, .int s_mn, .ref aLi, .ref aWa, .int s_wn, .ref aRi, .int s_rn])), (aKe, .inl (cI, 35, .inl (upd s_ke x5.toNatClampNeg x4))), (aFs, .inl (cI, 35, .inl s_fs))] := hD
  refine lv_aload_n hx hb d_M_addTriangle_93 rfl (lv_at hl 0 rfl) ?_
  refine va_get (D := (dC, dI)) (ci := 3) (v := .ref aFs) (C := R_M) (T := T_M) (N := 8) hx hb hts in_M hown hK.1 hP 0 rfl rfl 1 (by decide) (hts _ bw_62) (fun _ h9 => h9) rfl d_M_addTriangle_94 ?_
  refine lv_iload hx hb d_M_addTriangle_97 (lv_at hl 2 rfl) ?_
  refine lv_aload_n hx hb d_M_addTriangle_99 rfl (lv_at hl 0 rfl) ?_
  refine va_get (D := (dC, dI)) (ci := 3) (v := .int s_rn) (C := R_M) (T := T_M) (N := 8) hx hb hts in_M hown hK.1 hP 0 rfl rfl 7 (by decide) (hts _ bw_68) (fun _ h9 => h9) rfl d_M_addTriangle_100 ?_
  obtain ⟨hi2, hf⟩ := o_i hf
  refine va_iast (cA := cI) (n := 35) (f := s_fs) hx hb hK.1 hP hD hS 2 0 rfl rfl hi2 d_M_addTriangle_103 (fun H locs hP hD hS => ?_)
  have hP : va_P (dC, dI) vwCl [(gM, .inr (3, [.ref aKe, .ref aFs, .int s_mn, .ref aLi, .ref aWa, .int s_wn, .ref aRi, .int s_rn])), (aKe, .inl (cI, 35, .inl (upd s_ke x5.toNatClampNeg x4))), (aFs, .inl (cI, 35, .inl (upd s_fs x5.toNatClampNeg s_rn)))] H := hP
  have hD : va_D A [(gM, .inr (3, [.ref aKe, .ref aFs, .int s_mn, .ref aLi, .ref aWa, .int s_wn, .ref aRi, .int s_rn])), (aKe, .inl (cI, 35, .inl (upd s_ke x5.toNatClampNeg x4))), (aFs, .inl (cI, 35, .inl (upd s_fs x5.toNatClampNeg s_rn)))] := hD
  refine lv_aload_n hx hb d_M_addTriangle_104 rfl (lv_at hl 0 rfl) ?_
  refine lv_dup hx hb d_M_addTriangle_105 rfl ?_
  refine va_get (D := (dC, dI)) (ci := 3) (v := .int s_mn) (C := R_M) (T := T_M) (N := 8) hx hb hts in_M hown hK.1 hP 0 rfl rfl 2 (by decide) (hts _ bw_63) (fun _ h9 => h9) rfl d_M_addTriangle_106 ?_
  refine lv_iconst (v := (1 : Int32)) hx hb d_M_addTriangle_109 rfl ?_
  refine lv_iadd hx hb d_M_addTriangle_110 ?_
  refine va_put (D := (dC, dI)) (ci := 3) (v := .int (s_mn + (1 : Int32))) (ty := .int) (C := R_M) (T := T_M) (N := 8) hx hb hts in_M ty_M tok_M nok_M hown hK.1 hP hD hS 0 rfl rfl 2 (by decide) (hts _ bw_63) (fun _ h9 => h9) rfl (by decide +kernel) rfl rfl (Nat.le_of_ble_eq_true rfl) d_M_addTriangle_111 (fun H locs hP hD hS => ?_)
  have hP : va_P (dC, dI) vwCl [(gM, .inr (3, [.ref aKe, .ref aFs, .int (s_mn + (1 : Int32)), .ref aLi, .ref aWa, .int s_wn, .ref aRi, .int s_rn])), (aKe, .inl (cI, 35, .inl (upd s_ke x5.toNatClampNeg x4))), (aFs, .inl (cI, 35, .inl (upd s_fs x5.toNatClampNeg s_rn)))] H := hP
  have hD : va_D A [(gM, .inr (3, [.ref aKe, .ref aFs, .int (s_mn + (1 : Int32)), .ref aLi, .ref aWa, .int s_wn, .ref aRi, .int s_rn])), (aKe, .inl (cI, 35, .inl (upd s_ke x5.toNatClampNeg x4))), (aFs, .inl (cI, 35, .inl (upd s_fs x5.toNatClampNeg s_rn)))] := hD
  cases hf
  exact wr_v hx hb hr hlocks hP hD hS d_M_addTriangle_114
set_option maxHeartbeats 4000000 in
set_option maxRecDepth 100000 in
theorem t_M_addTriangle_L27 {p : Program} {l : Launch} {e : Env} {s : State} {m : MethodId} {args : Array Value} {below : List Frame} {meth : Method} {c : Code} {dC : Nat → ClassId} {dI : Nat → Nat → Nat} {cI cZ : ClassId} {gM aKe aFs aLi aWa aRi : Nat} {s_wn : Int32} {s_rn : Int32} {s_ke' : Nat → Int32} {s_fs' : Nat → Int32} {s_mn' : Int32} {A : Nat → Prop} (C0 : cx p s m args meth c b_M_addTriangle none 6 R_M) (hK : gK dC dI cI cZ s) (hA : ∀ q, s.heap.size ≤ q → A q) : ∀ (n : Nat) (s_ke : Nat → Int32) (s_fs : Nat → Int32) (s_mn : Int32) (x4 : Int32) (x5 : Int32), f_M_addTriangle_L27 s_rn n s_ke s_fs s_mn x4 x5 = some (s_ke', s_fs', s_mn') → ∀ (H : Heap) (locs : List Loc), va_P (dC, dI) vwCl [(gM, .inr (3, [.ref aKe, .ref aFs, .int s_mn, .ref aLi, .ref aWa, .int s_wn, .ref aRi, .int s_rn])), (aKe, .inl (cI, 35, .inl s_ke)), (aFs, .inl (cI, 35, .inl s_fs))] H → va_D A [(gM, .inr (3, [.ref aKe, .ref aFs, .int s_mn, .ref aLi, .ref aWa, .int s_wn, .ref aRi, .int s_rn])), (aKe, .inl (cI, 35, .inl s_ke)), (aFs, .inl (cI, 35, .inl s_fs))] → va_S A s.heap H locs → ∀ (ls : Array Slot), lv_has ls 6 [(0, .ref gM), (4, .int x4), (5, .int x5)] → W p l e (headSpec w_M_addTriangle ({ frames := 0, cells := 0, slots := 0, locals := 0 } : Room)).room s m args below meth c H locs 0 0 (MQ below (QwV dC dI A [(gM, .inr (3, [.ref aKe, .ref aFs, .int s_mn', .ref aLi, .ref aWa, .int s_wn, .ref aRi, .int s_rn])), (aKe, .inl (cI, 35, .inl s_ke')), (aFs, .inl (cI, 35, .inl s_fs'))]) args s 0 0 A) (F0 m 27 ls []) := by
  obtain ⟨hx, hb, hr, hml, hts, hown, hlocks⟩ := id C0
  intro n
  induction n with
  | zero =>
    intro s_ke s_fs s_mn x4 x5 hf
    exact (o_n hf).elim
  | succ n ih =>
    intro s_ke s_fs s_mn x4 x5 hf H locs hP hD hS ls hl
    refine lv_iload hx hb d_M_addTriangle_27 (lv_at hl 2 rfl) ?_
    refine lv_if_le (tgt := 84) hx hb d_M_addTriangle_29 (by decide) (fun hc3 => ?_) (fun hc3 => ?_)
    · have hf := o_t hf hc3
      exact t_M_addTriangle_b84 C0 hK hA  s_ke s_fs s_mn x4 x5 hf _ _ hP hD hS ls (lv_sub hl [0, 1, 2] rfl)
    · have hf := o_f hf hc3
      refine lv_aload_n hx hb d_M_addTriangle_32 rfl (lv_at hl 0 rfl) ?_
      refine va_get (D := (dC, dI)) (ci := 3) (v := .ref aKe) (C := R_M) (T := T_M) (N := 8) hx hb hts in_M hown hK.1 hP 0 rfl rfl 0 (by decide) (hts _ bw_61) (fun _ h9 => h9) rfl d_M_addTriangle_33 ?_
      refine lv_iload hx hb d_M_addTriangle_36 (lv_at hl 2 rfl) ?_
      refine lv_iconst (v := (1 : Int32)) hx hb d_M_addTriangle_38 rfl ?_
      refine lv_isub hx hb d_M_addTriangle_39 ?_
      obtain ⟨hi4, hf⟩ := o_i hf
      refine va_iald (cA := cI) (n := 35) (f := s_ke) hx hb hK.1 hP 1 0 rfl rfl hi4 d_M_addTriangle_40 ?_
      refine lv_iload hx hb d_M_addTriangle_41 (lv_at hl 1 rfl) ?_
      refine lv_icmp_le (tgt := 84) hx hb d_M_addTriangle_43 (by decide) (fun hc5 => ?_) (fun hc5 => ?_)
      · have hf := o_t hf hc5
        exact t_M_addTriangle_b84 C0 hK hA  s_ke s_fs s_mn x4 x5 hf _ _ hP hD hS ls (lv_sub hl [0, 1, 2] rfl)
      · have hf := o_f hf hc5
        refine lv_aload_n hx hb d_M_addTriangle_46 rfl (lv_at hl 0 rfl) ?_
        refine va_get (D := (dC, dI)) (ci := 3) (v := .ref aKe) (C := R_M) (T := T_M) (N := 8) hx hb hts in_M hown hK.1 hP 0 rfl rfl 0 (by decide) (hts _ bw_61) (fun _ h9 => h9) rfl d_M_addTriangle_47 ?_
        refine lv_iload hx hb d_M_addTriangle_50 (lv_at hl 2 rfl) ?_
        refine lv_aload_n hx hb d_M_addTriangle_52 rfl (lv_at hl 0 rfl) ?_
        refine va_get (D := (dC, dI)) (ci := 3) (v := .ref aKe) (C := R_M) (T := T_M) (N := 8) hx hb hts in_M hown hK.1 hP 0 rfl rfl 0 (by decide) (hts _ bw_61) (fun _ h9 => h9) rfl d_M_addTriangle_53 ?_
        refine lv_iload hx hb d_M_addTriangle_56 (lv_at hl 2 rfl) ?_
        refine lv_iconst (v := (1 : Int32)) hx hb d_M_addTriangle_58 rfl ?_
        refine lv_isub hx hb d_M_addTriangle_59 ?_
        obtain ⟨hi6, hf⟩ := o_i hf
        refine va_iald (cA := cI) (n := 35) (f := s_ke) hx hb hK.1 hP 1 0 rfl rfl hi6 d_M_addTriangle_60 ?_
        obtain ⟨hi7, hf⟩ := o_i hf
        refine va_iast (cA := cI) (n := 35) (f := s_ke) hx hb hK.1 hP hD hS 1 0 rfl rfl hi7 d_M_addTriangle_61 (fun H locs hP hD hS => ?_)
        have hP : va_P (dC, dI) vwCl [(gM, .inr (3, [.ref aKe, .ref aFs, .int s_mn, .ref aLi, .ref aWa, .int s_wn, .ref aRi, .int s_rn])), (aKe, .inl (cI, 35, .inl (upd s_ke x5.toNatClampNeg (s_ke (x5 - (1 : Int32)).toNatClampNeg)))), (aFs, .inl (cI, 35, .inl s_fs))] H := hP
        have hD : va_D A [(gM, .inr (3, [.ref aKe, .ref aFs, .int s_mn, .ref aLi, .ref aWa, .int s_wn, .ref aRi, .int s_rn])), (aKe, .inl (cI, 35, .inl (upd s_ke x5.toNatClampNeg (s_ke (x5 - (1 : Int32)).toNatClampNeg)))), (aFs, .inl (cI, 35, .inl s_fs))] := hD
        refine lv_aload_n hx hb d_M_addTriangle_62 rfl (lv_at hl 0 rfl) ?_
        refine va_get (D := (dC, dI)) (ci := 3) (v := .ref aFs) (C := R_M) (T := T_M) (N := 8) hx hb hts in_M hown hK.1 hP 0 rfl rfl 1 (by decide) (hts _ bw_62) (fun _ h9 => h9) rfl d_M_addTriangle_63 ?_
        refine lv_iload hx hb d_M_addTriangle_66 (lv_at hl 2 rfl) ?_
        refine lv_aload_n hx hb d_M_addTriangle_68 rfl (lv_at hl 0 rfl) ?_
        refine va_get (D := (dC, dI)) (ci := 3) (v := .ref aFs) (C := R_M) (T := T_M) (N := 8) hx hb hts in_M hown hK.1 hP 0 rfl rfl 1 (by decide) (hts _ bw_62) (fun _ h9 => h9) rfl d_M_addTriangle_69 ?_
        refine lv_iload hx hb d_M_addTriangle_72 (lv_at hl 2 rfl) ?_
        refine lv_iconst (v := (1 : Int32)) hx hb d_M_addTriangle_74 rfl ?_
        refine lv_isub hx hb d_M_addTriangle_75 ?_
        obtain ⟨hi8, hf⟩ := o_i hf
        refine va_iald (cA := cI) (n := 35) (f := s_fs) hx hb hK.1 hP 2 0 rfl rfl hi8 d_M_addTriangle_76 ?_
        obtain ⟨hi9, hf⟩ := o_i hf
        refine va_iast (cA := cI) (n := 35) (f := s_fs) hx hb hK.1 hP hD hS 2 0 rfl rfl hi9 d_M_addTriangle_77 (fun H locs hP hD hS => ?_)
        have hP : va_P (dC, dI) vwCl [(gM, .inr (3, [.ref aKe, .ref aFs, .int s_mn, .ref aLi, .ref aWa, .int s_wn, .ref aRi, .int s_rn])), (aKe, .inl (cI, 35, .inl (upd s_ke x5.toNatClampNeg (s_ke (x5 - (1 : Int32)).toNatClampNeg)))), (aFs, .inl (cI, 35, .inl (upd s_fs x5.toNatClampNeg (s_fs (x5 - (1 : Int32)).toNatClampNeg))))] H := hP
        have hD : va_D A [(gM, .inr (3, [.ref aKe, .ref aFs, .int s_mn, .ref aLi, .ref aWa, .int s_wn, .ref aRi, .int s_rn])), (aKe, .inl (cI, 35, .inl (upd s_ke x5.toNatClampNeg (s_ke (x5 - (1 : Int32)).toNatClampNeg)))), (aFs, .inl (cI, 35, .inl (upd s_fs x5.toNatClampNeg (s_fs (x5 - (1 : Int32)).toNatClampNeg))))] := hD
        refine lv_iinc (v := (x5 + (-1))) (lv' := [(5, .int (x5 + (-1))), (0, .ref gM), (4, .int x4)]) hx hb d_M_addTriangle_78 hl (k := 2) rfl rfl (by decide) rfl (fun ls hl => ?_)
        refine lv_goto (tgt := 27) hx hb d_M_addTriangle_81 (by decide) ?_
        exact ih (upd s_ke x5.toNatClampNeg (s_ke (x5 - (1 : Int32)).toNatClampNeg)) (upd s_fs x5.toNatClampNeg (s_fs (x5 - (1 : Int32)).toNatClampNeg)) s_mn x4 (x5 + (-1)) hf _ _ hP hD hS ls (lv_sub hl [1, 2, 0] rfl)
set_option maxHeartbeats 4000000 in
set_option maxRecDepth 100000 in
theorem t_M_addTriangle_e {p : Program} {l : Launch} {e : Env} {s : State} {m : MethodId} {args : Array Value} {below : List Frame} {meth : Method} {c : Code} {dC : Nat → ClassId} {dI : Nat → Nat → Nat} {cI cZ : ClassId} {gM aKe aFs aLi aWa aRi : Nat} {s_wn : Int32} {s_rn : Int32} {s_ke' : Nat → Int32} {s_fs' : Nat → Int32} {s_mn' : Int32} {A : Nat → Prop} (C0 : cx p s m args meth c b_M_addTriangle none 6 R_M) (hK : gK dC dI cI cZ s) (hA : ∀ q, s.heap.size ≤ q → A q) : ∀ (s_ke : Nat → Int32) (s_fs : Nat → Int32) (s_mn : Int32) (x1 : Int32) (x2 : Int32) (x3 : Int32), f_M_addTriangle s_ke s_fs s_mn s_rn x1 x2 x3 = some (s_ke', s_fs', s_mn') → ∀ (H : Heap) (locs : List Loc), va_P (dC, dI) vwCl [(gM, .inr (3, [.ref aKe, .ref aFs, .int s_mn, .ref aLi, .ref aWa, .int s_wn, .ref aRi, .int s_rn])), (aKe, .inl (cI, 35, .inl s_ke)), (aFs, .inl (cI, 35, .inl s_fs))] H → va_D A [(gM, .inr (3, [.ref aKe, .ref aFs, .int s_mn, .ref aLi, .ref aWa, .int s_wn, .ref aRi, .int s_rn])), (aKe, .inl (cI, 35, .inl s_ke)), (aFs, .inl (cI, 35, .inl s_fs))] → va_S A s.heap H locs → ∀ (ls : Array Slot), lv_has ls 6 [(0, .ref gM), (1, .int x1), (2, .int x2), (3, .int x3)] → W p l e (headSpec w_M_addTriangle ({ frames := 0, cells := 0, slots := 0, locals := 0 } : Room)).room s m args below meth c H locs 0 0 (MQ below (QwV dC dI A [(gM, .inr (3, [.ref aKe, .ref aFs, .int s_mn', .ref aLi, .ref aWa, .int s_wn, .ref aRi, .int s_rn])), (aKe, .inl (cI, 35, .inl s_ke')), (aFs, .inl (cI, 35, .inl s_fs'))]) args s 0 0 A) (F0 m 0 ls []) := by
  obtain ⟨hx, hb, hr, hml, hts, hown, hlocks⟩ := id C0
  intro s_ke s_fs s_mn x1 x2 x3 hf H locs hP hD hS ls hl
  refine lv_aload_n hx hb d_M_addTriangle_0 rfl (lv_at hl 0 rfl) ?_
  refine va_get (D := (dC, dI)) (ci := 3) (v := .int s_mn) (C := R_M) (T := T_M) (N := 8) hx hb hts in_M hown hK.1 hP 0 rfl rfl 2 (by decide) (hts _ bw_63) (fun _ h9 => h9) rfl d_M_addTriangle_1 ?_
  refine lv_bipush (v := (35 : Int32)) hx hb d_M_addTriangle_4 rfl ?_
  refine lv_icmp_lt (tgt := 10) hx hb d_M_addTriangle_6 (by decide) (fun hc10 => ?_) (fun hc10 => ?_)
  · have hf := o_t hf hc10
    refine lv_iload_n hx hb d_M_addTriangle_10 rfl (lv_at hl 1 rfl) ?_
    refine lv_iconst (v := (5 : Int32)) hx hb d_M_addTriangle_11 rfl ?_
    refine lv_ishl hx hb d_M_addTriangle_12 ?_
    refine lv_iload_n hx hb d_M_addTriangle_13 rfl (lv_at hl 2 rfl) ?_
    refine lv_ior hx hb d_M_addTriangle_14 ?_
    refine lv_iconst (v := (5 : Int32)) hx hb d_M_addTriangle_15 rfl ?_
    refine lv_ishl hx hb d_M_addTriangle_16 ?_
    refine lv_iload_n hx hb d_M_addTriangle_17 rfl (lv_at hl 3 rfl) ?_
    refine lv_ior hx hb d_M_addTriangle_18 ?_
    refine lv_istore (lv' := [(4, .int ((((x1 <<< ((5 : Int32) &&& 31)) ||| x2) <<< ((5 : Int32) &&& 31)) ||| x3)), (0, .ref gM), (1, .int x1), (2, .int x2), (3, .int x3)]) hx hb d_M_addTriangle_19 hl (by decide) rfl (fun ls hl => ?_)
    refine lv_aload_n hx hb d_M_addTriangle_21 rfl (lv_at hl 1 rfl) ?_
    refine va_get (D := (dC, dI)) (ci := 3) (v := .int s_mn) (C := R_M) (T := T_M) (N := 8) hx hb hts in_M hown hK.1 hP 0 rfl rfl 2 (by decide) (hts _ bw_63) (fun _ h9 => h9) rfl d_M_addTriangle_22 ?_
    refine lv_istore (lv' := [(5, .int s_mn), (4, .int ((((x1 <<< ((5 : Int32) &&& 31)) ||| x2) <<< ((5 : Int32) &&& 31)) ||| x3)), (0, .ref gM), (1, .int x1), (2, .int x2), (3, .int x3)]) hx hb d_M_addTriangle_25 hl (by decide) rfl (fun ls hl => ?_)
    exact t_M_addTriangle_L27 C0 hK hA  600 s_ke s_fs s_mn ((((x1 <<< ((5 : Int32) &&& 31)) ||| x2) <<< ((5 : Int32) &&& 31)) ||| x3) s_mn hf _ _ hP hD hS ls (lv_sub hl [2, 1, 0] rfl)
  · have hf := o_f hf hc10
    cases hf
    exact wr_v hx hb hr hlocks hP hD hS d_M_addTriangle_9
set_option maxHeartbeats 4000000 in
set_option maxRecDepth 100000 in
theorem c_M_addTriangle (l : Launch) (dC : Nat → ClassId) (dI : Nat → Nat → Nat) (cI cZ : ClassId) (gM aKe aFs aLi aWa aRi : Nat) (s_ke : Nat → Int32) (s_fs : Nat → Int32) (s_mn : Int32) (s_wn : Int32) (s_rn : Int32) (x1 : Int32) (x2 : Int32) (x3 : Int32) (s_ke' : Nat → Int32) (s_fs' : Nat → Int32) (s_mn' : Int32) (sz : Nat) (hf : f_M_addTriangle s_ke s_fs s_mn s_rn x1 x2 x3 = some (s_ke', s_fs', s_mn')) : Met l y_M_addTriangle w_M_addTriangle ({ frames := 0, cells := 0, slots := 0, locals := 0 } : Room) (PcW dC dI cI cZ [.ref gM, .int x1, .int x2, .int x3] [(gM, .inr (3, [.ref aKe, .ref aFs, .int s_mn, .ref aLi, .ref aWa, .int s_wn, .ref aRi, .int s_rn])), (aKe, .inl (cI, 35, .inl s_ke)), (aFs, .inl (cI, 35, .inl s_fs))] sz) (QwV dC dI (va_A [(gM, .inr (3, [.ref aKe, .ref aFs, .int s_mn, .ref aLi, .ref aWa, .int s_wn, .ref aRi, .int s_rn])), (aKe, .inl (cI, 35, .inl s_ke)), (aFs, .inl (cI, 35, .inl s_fs))] sz) [(gM, .inr (3, [.ref aKe, .ref aFs, .int s_mn', .ref aLi, .ref aWa, .int s_wn, .ref aRi, .int s_rn])), (aKe, .inl (cI, 35, .inl s_ke')), (aFs, .inl (cI, 35, .inl s_fs'))]) 0 0 (va_A [(gM, .inr (3, [.ref aKe, .ref aFs, .int s_mn, .ref aLi, .ref aWa, .int s_wn, .ref aRi, .int s_rn])), (aKe, .inl (cI, 35, .inl s_ke)), (aFs, .inl (cI, 35, .inl s_fs))] sz) := by
  refine Met.ofW (cc := b_M_addTriangle) (maxL := 6) (ret := none) (by decide) rfl ?_
  intro p e s m args below meth c s₁ B hml hv
  obtain ⟨rfl, hsz, hP, hK, hD0⟩ := hv
  have C0 : cx p s m _ meth c b_M_addTriangle none 6 R_M := ⟨B.exec, B.bytes, B.returns, hml, fun w hw => atoms_spec (ws := w_M_addTriangle) B.pre w (List.mem_cons_of_mem _ hw), findClass_of_methodNamed B.named, B.notSynchronized⟩
  subst hsz
  have hD := hD0.self (sz := s.heap.size)
  generalize hAe : va_A [(gM, .inr (3, [.ref aKe, .ref aFs, .int s_mn, .ref aLi, .ref aWa, .int s_wn, .ref aRi, .int s_rn])), (aKe, .inl (cI, 35, .inl s_ke)), (aFs, .inl (cI, 35, .inl s_fs))] s.heap.size = A at hD ⊢
  have hA : ∀ q : Nat, s.heap.size ≤ q → A q := fun q h => by rw [← hAe]; exact Or.inr h
  have hl := lv_entry ([.ref gM, .int x1, .int x2, .int x3]) (n := 6) (Nat.le_of_ble_eq_true rfl)
  rw [lg_entry_eq]
  generalize (lg_sl ([.ref gM, .int x1, .int x2, .int x3]) ++ List.replicate (6 - (lg_sl ([.ref gM, .int x1, .int x2, .int x3])).length) Slot.unset).toArray = ls at hl ⊢
  have hl : lv_has ls 6 [(0, .ref gM), (1, .int x1), (2, .int x2), (3, .int x3)] := hl
  exact t_M_addTriangle_e C0 hK hA s_ke s_fs s_mn x1 x2 x3 hf _ _ hP hD va_S.rf ls hl
set_option maxHeartbeats 4000000 in
set_option maxRecDepth 100000 in
theorem t_M_addFace_b78 {p : Program} {l : Launch} {e : Env} {s : State} {m : MethodId} {args : Array Value} {below : List Frame} {meth : Method} {c : Code} {dC : Nat → ClassId} {dI : Nat → Nat → Nat} {cI cZ : ClassId} {gM aKe aFs aLi aWa aRi : Nat} {s_ri : Nat → Int32} {s_rn : Int32} {s_ke' : Nat → Int32} {s_fs' : Nat → Int32} {s_mn' : Int32} {s_li' : Nat → Int32} {s_wa' : Nat → Int32} {s_wn' : Int32} {A : Nat → Prop} (C0 : cx p s m args meth c b_M_addFace none 4 R_M) (hK : gK dC dI cI cZ s) (hA : ∀ q, s.heap.size ≤ q → A q) {k42 : (Nat → Int32) → (Nat → Int32) → Int32 → (Nat → Int32) → (Nat → Int32) → Int32 → Int32 → Option ((Nat → Int32) × (Nat → Int32) × Int32 × (Nat → Int32) × (Nat → Int32) × Int32)} (hk42 : ∀ (s_ke : Nat → Int32) (s_fs : Nat → Int32) (s_mn : Int32) (s_li : Nat → Int32) (s_wa : Nat → Int32) (s_wn : Int32) (x1 : Int32), k42 s_ke s_fs s_mn s_li s_wa s_wn x1 = some (s_ke', s_fs', s_mn', s_li', s_wa', s_wn') → ∀ (H : Heap) (locs : List Loc), va_P (dC, dI) vwCl [(gM, .inr (3, [.ref aKe, .ref aFs, .int s_mn, .ref aLi, .ref aWa, .int s_wn, .ref aRi, .int s_rn])), (aKe, .inl (cI, 35, .inl s_ke)), (aFs, .inl (cI, 35, .inl s_fs)), (aLi, .inl (cI, 20, .inl s_li)), (aWa, .inl (cI, 54, .inl s_wa)), (aRi, .inl (cI, 20, .inl s_ri))] H → va_D A [(gM, .inr (3, [.ref aKe, .ref aFs, .int s_mn, .ref aLi, .ref aWa, .int s_wn, .ref aRi, .int s_rn])), (aKe, .inl (cI, 35, .inl s_ke)), (aFs, .inl (cI, 35, .inl s_fs)), (aLi, .inl (cI, 20, .inl s_li)), (aWa, .inl (cI, 54, .inl s_wa)), (aRi, .inl (cI, 20, .inl s_ri))] → va_S A s.heap H locs → ∀ (ls : Array Slot), lv_has ls 4 [(0, .ref gM), (1, .int x1)] → W p l e (headSpec w_M_addFace ({ frames := 1, cells := 0, slots := 0, locals := 25 } : Room)).room s m args below meth c H locs 0 0 (MQ below (QwV dC dI A [(gM, .inr (3, [.ref aKe, .ref aFs, .int s_mn', .ref aLi, .ref aWa, .int s_wn', .ref aRi, .int s_rn])), (aKe, .inl (cI, 35, .inl s_ke')), (aFs, .inl (cI, 35, .inl s_fs')), (aLi, .inl (cI, 20, .inl s_li')), (aWa, .inl (cI, 54, .inl s_wa')), (aRi, .inl (cI, 20, .inl s_ri))]) args s 0 0 A) (F0 m 42 ls [])) : ∀ (s_ke : Nat → Int32) (s_fs : Nat → Int32) (s_mn : Int32) (s_li : Nat → Int32) (s_wa : Nat → Int32) (s_wn : Int32) (x1 : Int32) (x2 : Int32) (z1 : Int32), f_M_addFace_b78 k42 s_ri s_rn s_ke s_fs s_mn s_li s_wa s_wn x1 x2 z1 = some (s_ke', s_fs', s_mn', s_li', s_wa', s_wn') → ∀ (H : Heap) (locs : List Loc), va_P (dC, dI) vwCl [(gM, .inr (3, [.ref aKe, .ref aFs, .int s_mn, .ref aLi, .ref aWa, .int s_wn, .ref aRi, .int s_rn])), (aKe, .inl (cI, 35, .inl s_ke)), (aFs, .inl (cI, 35, .inl s_fs)), (aLi, .inl (cI, 20, .inl s_li)), (aWa, .inl (cI, 54, .inl s_wa)), (aRi, .inl (cI, 20, .inl s_ri))] H → va_D A [(gM, .inr (3, [.ref aKe, .ref aFs, .int s_mn, .ref aLi, .ref aWa, .int s_wn, .ref aRi, .int s_rn])), (aKe, .inl (cI, 35, .inl s_ke)), (aFs, .inl (cI, 35, .inl s_fs)), (aLi, .inl (cI, 20, .inl s_li)), (aWa, .inl (cI, 54, .inl s_wa)), (aRi, .inl (cI, 20, .inl s_ri))] → va_S A s.heap H locs → ∀ (ls : Array Slot), lv_has ls 4 [(0, .ref gM), (1, .int x1), (2, .int x2)] → W p l e (headSpec w_M_addFace ({ frames := 1, cells := 0, slots := 0, locals := 25 } : Room)).room s m args below meth c H locs 0 0 (MQ below (QwV dC dI A [(gM, .inr (3, [.ref aKe, .ref aFs, .int s_mn', .ref aLi, .ref aWa, .int s_wn', .ref aRi, .int s_rn])), (aKe, .inl (cI, 35, .inl s_ke')), (aFs, .inl (cI, 35, .inl s_fs')), (aLi, .inl (cI, 20, .inl s_li')), (aWa, .inl (cI, 54, .inl s_wa')), (aRi, .inl (cI, 20, .inl s_ri))]) args s 0 0 A) (F0 m 78 ls [.int z1, .ref aRi]) := by
  obtain ⟨hx, hb, hr, hml, hts, hown, hlocks⟩ := id C0
  intro s_ke s_fs s_mn s_li s_wa s_wn x1 x2 z1 hf H locs hP hD hS ls hl
  obtain ⟨hi1, hf⟩ := o_i hf
  refine va_iald (cA := cI) (n := 20) (f := s_ri) hx hb hK.1 hP 5 0 rfl rfl hi1 d_M_addFace_78 ?_
  refine lv_istore_n (lv' := [(3, .int (s_ri z1.toNatClampNeg)), (0, .ref gM), (1, .int x1), (2, .int x2)]) hx hb d_M_addFace_79 rfl hl (by decide) rfl (fun ls hl => ?_)
  refine lv_aload_n hx hb d_M_addFace_80 rfl (lv_at hl 1 rfl) ?_
  refine lv_iload_n hx hb d_M_addFace_81 rfl (lv_at hl 3 rfl) ?_
  refine lv_iload_n hx hb d_M_addFace_82 rfl (lv_at hl 0 rfl) ?_
  obtain ⟨r2, hv4, hf⟩ := o_b hf
  refine wc_v (wr := [(aKe, .inl (cI, 35, .inl s_ke)), (aFs, .inl (cI, 35, .inl s_fs)), (aWa, .inl (cI, 54, .inl s_wa)), (aRi, .inl (cI, 20, .inl s_ri))]) (w1 := [(gM, .inr (3, [.ref aKe, .ref aFs, .int s_mn, .ref aLi, .ref aWa, .int s_wn, .ref aRi, .int s_rn])), (aLi, .inl (cI, 20, .inl r2))]) (va_runV (As := [.int x2, .int (s_ri z1.toNatClampNeg)]) (rest := []) ⟨hx, hb, hml, hown, hts⟩ (c_M_link l dC dI cI cZ gM aKe aFs aLi aWa aRi s_mn s_li s_wn s_rn x2 (s_ri z1.toNatClampNeg) r2 H.size hv4) (cwV 2 hts (gd_V bw_219 bw_221 bp_4 bw_4 bw_222) rfl rfl rfl ⟨rfl, hd_M_link⟩ ⟨Nat.le_of_ble_eq_true rfl, Nat.le_of_ble_eq_true rfl⟩) (pv_w (wc := [(gM, .inr (3, [.ref aKe, .ref aFs, .int s_mn, .ref aLi, .ref aWa, .int s_wn, .ref aRi, .int s_rn])), (aLi, .inl (cI, 20, .inl s_li))]) hK hP hD [0, 3] rfl rfl (by decide) 0 (ci := 3) rfl rfl) rfl rfl hl.1 rfl (lv_room (Nat.le_of_ble_eq_true rfl)) d_M_addFace_83 ⟨Nat.zero_le _, Nat.zero_le _⟩) hP hD hS hA [0, 3] [1, 2, 4, 5] rfl rfl (by decide) (by decide) (fun H locs hP hD hS => ?_)
  have hP : va_P (dC, dI) vwCl [(gM, .inr (3, [.ref aKe, .ref aFs, .int s_mn, .ref aLi, .ref aWa, .int s_wn, .ref aRi, .int s_rn])), (aKe, .inl (cI, 35, .inl s_ke)), (aFs, .inl (cI, 35, .inl s_fs)), (aLi, .inl (cI, 20, .inl r2)), (aWa, .inl (cI, 54, .inl s_wa)), (aRi, .inl (cI, 20, .inl s_ri))] H := hP.sub [4, 0, 1, 5, 2, 3] rfl
  have hD : va_D A [(gM, .inr (3, [.ref aKe, .ref aFs, .int s_mn, .ref aLi, .ref aWa, .int s_wn, .ref aRi, .int s_rn])), (aKe, .inl (cI, 35, .inl s_ke)), (aFs, .inl (cI, 35, .inl s_fs)), (aLi, .inl (cI, 20, .inl r2)), (aWa, .inl (cI, 54, .inl s_wa)), (aRi, .inl (cI, 20, .inl s_ri))] := hD.sub [4, 0, 1, 5, 2, 3] (by decide) rfl
  refine lv_aload_n hx hb d_M_addFace_86 rfl (lv_at hl 1 rfl) ?_
  refine lv_iload_n hx hb d_M_addFace_87 rfl (lv_at hl 0 rfl) ?_
  refine lv_iload_n hx hb d_M_addFace_88 rfl (lv_at hl 3 rfl) ?_
  obtain ⟨r5, hv7, hf⟩ := o_b hf
  refine rc_i (va_runV (As := [.int (s_ri z1.toNatClampNeg), .int x2]) (rest := []) ⟨hx, hb, hml, hown, hts⟩ (c_M_isLinked l dC dI cI cZ gM aKe aFs aLi aWa aRi s_mn r2 s_wn s_rn (s_ri z1.toNatClampNeg) x2 r5 hv7) (cwV 2 hts (gd_V bw_235 bw_237 bp_7 bw_4 bw_238) rfl rfl rfl ⟨rfl, hd_M_isLinked⟩ ⟨Nat.le_of_ble_eq_true rfl, Nat.le_of_ble_eq_true rfl⟩) (pv_r (wc := [(gM, .inr (3, [.ref aKe, .ref aFs, .int s_mn, .ref aLi, .ref aWa, .int s_wn, .ref aRi, .int s_rn])), (aLi, .inl (cI, 20, .inl r2))]) hK hP [0, 3] rfl 0 (ci := 3) rfl rfl) rfl rfl hl.1 rfl (lv_room (Nat.le_of_ble_eq_true rfl)) d_M_addFace_89 ⟨Nat.zero_le _, Nat.zero_le _⟩) ?_
  refine lv_if_ne (tgt := 101) hx hb d_M_addFace_92 (by decide) (fun hc8 => ?_) (fun hc8 => ?_)
  · have hf := o_f hf hc8
    refine lv_iinc (v := (x1 + 1)) (lv' := [(1, .int (x1 + 1)), (3, .int (s_ri z1.toNatClampNeg)), (0, .ref gM), (2, .int x2)]) hx hb d_M_addFace_101 hl (k := 2) rfl rfl (by decide) rfl (fun ls hl => ?_)
    refine lv_goto (tgt := 42) hx hb d_M_addFace_104 (by decide) ?_
    exact hk42 s_ke s_fs s_mn r2 s_wa s_wn (x1 + 1) hf _ _ hP hD hS ls (lv_sub hl [2, 0] rfl)
  · have hf := o_t hf hc8
    refine lv_aload_n hx hb d_M_addFace_95 rfl (lv_at hl 1 rfl) ?_
    refine lv_iload_n hx hb d_M_addFace_96 rfl (lv_at hl 0 rfl) ?_
    refine lv_iload_n hx hb d_M_addFace_97 rfl (lv_at hl 3 rfl) ?_
    obtain ⟨⟨r9, r10⟩, hv12, hf⟩ := o_b hf
    refine wc_v (wr := [(aKe, .inl (cI, 35, .inl s_ke)), (aFs, .inl (cI, 35, .inl s_fs)), (aLi, .inl (cI, 20, .inl r2)), (aRi, .inl (cI, 20, .inl s_ri))]) (w1 := [(gM, .inr (3, [.ref aKe, .ref aFs, .int s_mn, .ref aLi, .ref aWa, .int r10, .ref aRi, .int s_rn])), (aWa, .inl (cI, 54, .inl r9))]) (va_runV (As := [.int (s_ri z1.toNatClampNeg), .int x2]) (rest := []) ⟨hx, hb, hml, hown, hts⟩ (c_M_await l dC dI cI cZ gM aKe aFs aLi aWa aRi s_mn s_wa s_wn s_rn (s_ri z1.toNatClampNeg) x2 r9 r10 H.size hv12) (cwV 2 hts (gd_V bw_227 bw_229 bp_6 bw_4 bw_230) rfl rfl rfl ⟨rfl, hd_M_await⟩ ⟨Nat.le_of_ble_eq_true rfl, Nat.le_of_ble_eq_true rfl⟩) (pv_w (wc := [(gM, .inr (3, [.ref aKe, .ref aFs, .int s_mn, .ref aLi, .ref aWa, .int s_wn, .ref aRi, .int s_rn])), (aWa, .inl (cI, 54, .inl s_wa))]) hK hP hD [0, 4] rfl rfl (by decide) 0 (ci := 3) rfl rfl) rfl rfl hl.1 rfl (lv_room (Nat.le_of_ble_eq_true rfl)) d_M_addFace_98 ⟨Nat.zero_le _, Nat.zero_le _⟩) hP hD hS hA [0, 4] [1, 2, 3, 5] rfl rfl (by decide) (by decide) (fun H locs hP hD hS => ?_)
    have hP : va_P (dC, dI) vwCl [(gM, .inr (3, [.ref aKe, .ref aFs, .int s_mn, .ref aLi, .ref aWa, .int r10, .ref aRi, .int s_rn])), (aKe, .inl (cI, 35, .inl s_ke)), (aFs, .inl (cI, 35, .inl s_fs)), (aLi, .inl (cI, 20, .inl r2)), (aWa, .inl (cI, 54, .inl r9)), (aRi, .inl (cI, 20, .inl s_ri))] H := hP.sub [4, 0, 1, 2, 5, 3] rfl
    have hD : va_D A [(gM, .inr (3, [.ref aKe, .ref aFs, .int s_mn, .ref aLi, .ref aWa, .int r10, .ref aRi, .int s_rn])), (aKe, .inl (cI, 35, .inl s_ke)), (aFs, .inl (cI, 35, .inl s_fs)), (aLi, .inl (cI, 20, .inl r2)), (aWa, .inl (cI, 54, .inl r9)), (aRi, .inl (cI, 20, .inl s_ri))] := hD.sub [4, 0, 1, 2, 5, 3] (by decide) rfl
    refine lv_iinc (v := (x1 + 1)) (lv' := [(1, .int (x1 + 1)), (3, .int (s_ri z1.toNatClampNeg)), (0, .ref gM), (2, .int x2)]) hx hb d_M_addFace_101 hl (k := 2) rfl rfl (by decide) rfl (fun ls hl => ?_)
    refine lv_goto (tgt := 42) hx hb d_M_addFace_104 (by decide) ?_
    exact hk42 s_ke s_fs s_mn r2 r9 r10 (x1 + 1) hf _ _ hP hD hS ls (lv_sub hl [2, 0] rfl)
set_option maxHeartbeats 4000000 in
set_option maxRecDepth 100000 in
theorem t_M_addFace_L42 {p : Program} {l : Launch} {e : Env} {s : State} {m : MethodId} {args : Array Value} {below : List Frame} {meth : Method} {c : Code} {dC : Nat → ClassId} {dI : Nat → Nat → Nat} {cI cZ : ClassId} {gM aKe aFs aLi aWa aRi : Nat} {s_ri : Nat → Int32} {s_rn : Int32} {s_ke' : Nat → Int32} {s_fs' : Nat → Int32} {s_mn' : Int32} {s_li' : Nat → Int32} {s_wa' : Nat → Int32} {s_wn' : Int32} {A : Nat → Prop} (C0 : cx p s m args meth c b_M_addFace none 4 R_M) (hK : gK dC dI cI cZ s) (hA : ∀ q, s.heap.size ≤ q → A q) : ∀ (n : Nat) (s_ke : Nat → Int32) (s_fs : Nat → Int32) (s_mn : Int32) (s_li : Nat → Int32) (s_wa : Nat → Int32) (s_wn : Int32) (x1 : Int32), f_M_addFace_L42 s_ri s_rn n s_ke s_fs s_mn s_li s_wa s_wn x1 = some (s_ke', s_fs', s_mn', s_li', s_wa', s_wn') → ∀ (H : Heap) (locs : List Loc), va_P (dC, dI) vwCl [(gM, .inr (3, [.ref aKe, .ref aFs, .int s_mn, .ref aLi, .ref aWa, .int s_wn, .ref aRi, .int s_rn])), (aKe, .inl (cI, 35, .inl s_ke)), (aFs, .inl (cI, 35, .inl s_fs)), (aLi, .inl (cI, 20, .inl s_li)), (aWa, .inl (cI, 54, .inl s_wa)), (aRi, .inl (cI, 20, .inl s_ri))] H → va_D A [(gM, .inr (3, [.ref aKe, .ref aFs, .int s_mn, .ref aLi, .ref aWa, .int s_wn, .ref aRi, .int s_rn])), (aKe, .inl (cI, 35, .inl s_ke)), (aFs, .inl (cI, 35, .inl s_fs)), (aLi, .inl (cI, 20, .inl s_li)), (aWa, .inl (cI, 54, .inl s_wa)), (aRi, .inl (cI, 20, .inl s_ri))] → va_S A s.heap H locs → ∀ (ls : Array Slot), lv_has ls 4 [(0, .ref gM), (1, .int x1)] → W p l e (headSpec w_M_addFace ({ frames := 1, cells := 0, slots := 0, locals := 25 } : Room)).room s m args below meth c H locs 0 0 (MQ below (QwV dC dI A [(gM, .inr (3, [.ref aKe, .ref aFs, .int s_mn', .ref aLi, .ref aWa, .int s_wn', .ref aRi, .int s_rn])), (aKe, .inl (cI, 35, .inl s_ke')), (aFs, .inl (cI, 35, .inl s_fs')), (aLi, .inl (cI, 20, .inl s_li')), (aWa, .inl (cI, 54, .inl s_wa')), (aRi, .inl (cI, 20, .inl s_ri))]) args s 0 0 A) (F0 m 42 ls []) := by
  obtain ⟨hx, hb, hr, hml, hts, hown, hlocks⟩ := id C0
  intro n
  induction n with
  | zero =>
    intro s_ke s_fs s_mn s_li s_wa s_wn x1 hf
    exact (o_n hf).elim
  | succ n ih =>
    intro s_ke s_fs s_mn s_li s_wa s_wn x1 hf H locs hP hD hS ls hl
    refine lv_iload_n hx hb d_M_addFace_42 rfl (lv_at hl 1 rfl) ?_
    refine lv_aload_n hx hb d_M_addFace_43 rfl (lv_at hl 0 rfl) ?_
    refine va_get (D := (dC, dI)) (ci := 3) (v := .int s_rn) (C := R_M) (T := T_M) (N := 8) hx hb hts in_M hown hK.1 hP 0 rfl rfl 7 (by decide) (hts _ bw_68) (fun _ h9 => h9) rfl d_M_addFace_44 ?_
    refine lv_icmp_ge (tgt := 107) hx hb d_M_addFace_47 (by decide) (fun hc13 => ?_) (fun hc13 => ?_)
    · have hf := o_t hf hc13
      cases hf
      exact wr_v hx hb hr hlocks hP hD hS d_M_addFace_107
    · have hf := o_f hf hc13
      refine lv_aload_n hx hb d_M_addFace_50 rfl (lv_at hl 0 rfl) ?_
      refine va_get (D := (dC, dI)) (ci := 3) (v := .ref aRi) (C := R_M) (T := T_M) (N := 8) hx hb hts in_M hown hK.1 hP 0 rfl rfl 6 (by decide) (hts _ bw_67) (fun _ h9 => h9) rfl d_M_addFace_51 ?_
      refine lv_iload_n hx hb d_M_addFace_54 rfl (lv_at hl 1 rfl) ?_
      obtain ⟨hi14, hf⟩ := o_i hf
      refine va_iald (cA := cI) (n := 20) (f := s_ri) hx hb hK.1 hP 5 0 rfl rfl hi14 d_M_addFace_55 ?_
      refine lv_istore_n (lv' := [(2, .int (s_ri x1.toNatClampNeg)), (0, .ref gM), (1, .int x1)]) hx hb d_M_addFace_56 rfl hl (by decide) rfl (fun ls hl => ?_)
      refine lv_aload_n hx hb d_M_addFace_57 rfl (lv_at hl 1 rfl) ?_
      refine va_get (D := (dC, dI)) (ci := 3) (v := .ref aRi) (C := R_M) (T := T_M) (N := 8) hx hb hts in_M hown hK.1 hP 0 rfl rfl 6 (by decide) (hts _ bw_67) (fun _ h9 => h9) rfl d_M_addFace_58 ?_
      refine lv_iload_n hx hb d_M_addFace_61 rfl (lv_at hl 2 rfl) ?_
      refine lv_iconst (v := (1 : Int32)) hx hb d_M_addFace_62 rfl ?_
      refine lv_iadd hx hb d_M_addFace_63 ?_
      refine lv_aload_n hx hb d_M_addFace_64 rfl (lv_at hl 1 rfl) ?_
      refine va_get (D := (dC, dI)) (ci := 3) (v := .int s_rn) (C := R_M) (T := T_M) (N := 8) hx hb hts in_M hown hK.1 hP 0 rfl rfl 7 (by decide) (hts _ bw_68) (fun _ h9 => h9) rfl d_M_addFace_65 ?_
      refine lv_icmp_ge (tgt := 77) hx hb d_M_addFace_68 (by decide) (fun hc15 => ?_) (fun hc15 => ?_)
      · have hf := o_t hf hc15
        refine lv_iconst (v := (0 : Int32)) hx hb d_M_addFace_77 rfl ?_
        exact t_M_addFace_b78 C0 hK hA (k42 := (fun s_ke s_fs s_mn s_li s_wa s_wn x1 => f_M_addFace_L42 s_ri s_rn n s_ke s_fs s_mn s_li s_wa s_wn x1)) ih s_ke s_fs s_mn s_li s_wa s_wn x1 (s_ri x1.toNatClampNeg) (0 : Int32) hf _ _ hP hD hS ls (lv_sub hl [1, 2, 0] rfl)
      · have hf := o_f hf hc15
        refine lv_iload_n hx hb d_M_addFace_71 rfl (lv_at hl 2 rfl) ?_
        refine lv_iconst (v := (1 : Int32)) hx hb d_M_addFace_72 rfl ?_
        refine lv_iadd hx hb d_M_addFace_73 ?_
        refine lv_goto (tgt := 78) hx hb d_M_addFace_74 (by decide) ?_
        exact t_M_addFace_b78 C0 hK hA (k42 := (fun s_ke s_fs s_mn s_li s_wa s_wn x1 => f_M_addFace_L42 s_ri s_rn n s_ke s_fs s_mn s_li s_wa s_wn x1)) ih s_ke s_fs s_mn s_li s_wa s_wn x1 (s_ri x1.toNatClampNeg) (x1 + (1 : Int32)) hf _ _ hP hD hS ls (lv_sub hl [1, 2, 0] rfl)
set_option maxHeartbeats 4000000 in
set_option maxRecDepth 100000 in
theorem t_M_addFace_L2 {p : Program} {l : Launch} {e : Env} {s : State} {m : MethodId} {args : Array Value} {below : List Frame} {meth : Method} {c : Code} {dC : Nat → ClassId} {dI : Nat → Nat → Nat} {cI cZ : ClassId} {gM aKe aFs aLi aWa aRi : Nat} {s_ri : Nat → Int32} {s_rn : Int32} {s_ke' : Nat → Int32} {s_fs' : Nat → Int32} {s_mn' : Int32} {s_li' : Nat → Int32} {s_wa' : Nat → Int32} {s_wn' : Int32} {A : Nat → Prop} (C0 : cx p s m args meth c b_M_addFace none 4 R_M) (hK : gK dC dI cI cZ s) (hA : ∀ q, s.heap.size ≤ q → A q) : ∀ (n : Nat) (s_ke : Nat → Int32) (s_fs : Nat → Int32) (s_mn : Int32) (s_li : Nat → Int32) (s_wa : Nat → Int32) (s_wn : Int32) (x1 : Int32), f_M_addFace_L2 s_ri s_rn n s_ke s_fs s_mn s_li s_wa s_wn x1 = some (s_ke', s_fs', s_mn', s_li', s_wa', s_wn') → ∀ (H : Heap) (locs : List Loc), va_P (dC, dI) vwCl [(gM, .inr (3, [.ref aKe, .ref aFs, .int s_mn, .ref aLi, .ref aWa, .int s_wn, .ref aRi, .int s_rn])), (aKe, .inl (cI, 35, .inl s_ke)), (aFs, .inl (cI, 35, .inl s_fs)), (aLi, .inl (cI, 20, .inl s_li)), (aWa, .inl (cI, 54, .inl s_wa)), (aRi, .inl (cI, 20, .inl s_ri))] H → va_D A [(gM, .inr (3, [.ref aKe, .ref aFs, .int s_mn, .ref aLi, .ref aWa, .int s_wn, .ref aRi, .int s_rn])), (aKe, .inl (cI, 35, .inl s_ke)), (aFs, .inl (cI, 35, .inl s_fs)), (aLi, .inl (cI, 20, .inl s_li)), (aWa, .inl (cI, 54, .inl s_wa)), (aRi, .inl (cI, 20, .inl s_ri))] → va_S A s.heap H locs → ∀ (ls : Array Slot), lv_has ls 4 [(0, .ref gM), (1, .int x1)] → W p l e (headSpec w_M_addFace ({ frames := 1, cells := 0, slots := 0, locals := 25 } : Room)).room s m args below meth c H locs 0 0 (MQ below (QwV dC dI A [(gM, .inr (3, [.ref aKe, .ref aFs, .int s_mn', .ref aLi, .ref aWa, .int s_wn', .ref aRi, .int s_rn])), (aKe, .inl (cI, 35, .inl s_ke')), (aFs, .inl (cI, 35, .inl s_fs')), (aLi, .inl (cI, 20, .inl s_li')), (aWa, .inl (cI, 54, .inl s_wa')), (aRi, .inl (cI, 20, .inl s_ri))]) args s 0 0 A) (F0 m 2 ls []) := by
  obtain ⟨hx, hb, hr, hml, hts, hown, hlocks⟩ := id C0
  intro n
  induction n with
  | zero =>
    intro s_ke s_fs s_mn s_li s_wa s_wn x1 hf
    exact (o_n hf).elim
  | succ n ih =>
    intro s_ke s_fs s_mn s_li s_wa s_wn x1 hf H locs hP hD hS ls hl
    refine lv_iload_n hx hb d_M_addFace_2 rfl (lv_at hl 1 rfl) ?_
    refine lv_aload_n hx hb d_M_addFace_3 rfl (lv_at hl 0 rfl) ?_
    refine va_get (D := (dC, dI)) (ci := 3) (v := .int s_rn) (C := R_M) (T := T_M) (N := 8) hx hb hts in_M hown hK.1 hP 0 rfl rfl 7 (by decide) (hts _ bw_68) (fun _ h9 => h9) rfl d_M_addFace_4 ?_
    refine lv_icmp_ge (tgt := 40) hx hb d_M_addFace_7 (by decide) (fun hc16 => ?_) (fun hc16 => ?_)
    · have hf := o_t hf hc16
      refine lv_iconst (v := (0 : Int32)) hx hb d_M_addFace_40 rfl ?_
      refine lv_istore_n (lv' := [(1, .int (0 : Int32)), (0, .ref gM)]) hx hb d_M_addFace_41 rfl hl (by decide) rfl (fun ls hl => ?_)
      exact t_M_addFace_L42 C0 hK hA  600 s_ke s_fs s_mn s_li s_wa s_wn (0 : Int32) hf _ _ hP hD hS ls (lv_sub hl [1, 0] rfl)
    · have hf := o_f hf hc16
      refine lv_aload_n hx hb d_M_addFace_10 rfl (lv_at hl 0 rfl) ?_
      refine lv_aload_n hx hb d_M_addFace_11 rfl (lv_at hl 0 rfl) ?_
      refine va_get (D := (dC, dI)) (ci := 3) (v := .ref aRi) (C := R_M) (T := T_M) (N := 8) hx hb hts in_M hown hK.1 hP 0 rfl rfl 6 (by decide) (hts _ bw_67) (fun _ h9 => h9) rfl d_M_addFace_12 ?_
      refine lv_iconst (v := (0 : Int32)) hx hb d_M_addFace_15 rfl ?_
      obtain ⟨hi17, hf⟩ := o_i hf
      refine va_iald (cA := cI) (n := 20) (f := s_ri) hx hb hK.1 hP 5 0 rfl rfl hi17 d_M_addFace_16 ?_
      refine lv_aload_n hx hb d_M_addFace_17 rfl (lv_at hl 0 rfl) ?_
      refine va_get (D := (dC, dI)) (ci := 3) (v := .ref aRi) (C := R_M) (T := T_M) (N := 8) hx hb hts in_M hown hK.1 hP 0 rfl rfl 6 (by decide) (hts _ bw_67) (fun _ h9 => h9) rfl d_M_addFace_18 ?_
      refine lv_iload_n hx hb d_M_addFace_21 rfl (lv_at hl 1 rfl) ?_
      refine lv_iconst (v := (1 : Int32)) hx hb d_M_addFace_22 rfl ?_
      refine lv_isub hx hb d_M_addFace_23 ?_
      obtain ⟨hi18, hf⟩ := o_i hf
      refine va_iald (cA := cI) (n := 20) (f := s_ri) hx hb hK.1 hP 5 0 rfl rfl hi18 d_M_addFace_24 ?_
      refine lv_aload_n hx hb d_M_addFace_25 rfl (lv_at hl 0 rfl) ?_
      refine va_get (D := (dC, dI)) (ci := 3) (v := .ref aRi) (C := R_M) (T := T_M) (N := 8) hx hb hts in_M hown hK.1 hP 0 rfl rfl 6 (by decide) (hts _ bw_67) (fun _ h9 => h9) rfl d_M_addFace_26 ?_
      refine lv_iload_n hx hb d_M_addFace_29 rfl (lv_at hl 1 rfl) ?_
      obtain ⟨hi19, hf⟩ := o_i hf
      refine va_iald (cA := cI) (n := 20) (f := s_ri) hx hb hK.1 hP 5 0 rfl rfl hi19 d_M_addFace_30 ?_
      obtain ⟨⟨r20, r21, r22⟩, hv24, hf⟩ := o_b hf
      refine wc_v (wr := [(aLi, .inl (cI, 20, .inl s_li)), (aWa, .inl (cI, 54, .inl s_wa)), (aRi, .inl (cI, 20, .inl s_ri))]) (w1 := [(gM, .inr (3, [.ref aKe, .ref aFs, .int r22, .ref aLi, .ref aWa, .int s_wn, .ref aRi, .int s_rn])), (aKe, .inl (cI, 35, .inl r20)), (aFs, .inl (cI, 35, .inl r21))]) (va_runV (As := [.int (s_ri (0 : Int32).toNatClampNeg), .int (s_ri (x1 - (1 : Int32)).toNatClampNeg), .int (s_ri x1.toNatClampNeg)]) (rest := []) ⟨hx, hb, hml, hown, hts⟩ (c_M_addTriangle l dC dI cI cZ gM aKe aFs aLi aWa aRi s_ke s_fs s_mn s_wn s_rn (s_ri (0 : Int32).toNatClampNeg) (s_ri (x1 - (1 : Int32)).toNatClampNeg) (s_ri x1.toNatClampNeg) r20 r21 r22 H.size hv24) (cwV 3 hts (gd_V bw_265 bw_267 bp_11 bw_4 bw_268) rfl rfl rfl ⟨rfl, hd_M_addTriangle⟩ ⟨Nat.le_of_ble_eq_true rfl, Nat.le_of_ble_eq_true rfl⟩) (pv_w (wc := [(gM, .inr (3, [.ref aKe, .ref aFs, .int s_mn, .ref aLi, .ref aWa, .int s_wn, .ref aRi, .int s_rn])), (aKe, .inl (cI, 35, .inl s_ke)), (aFs, .inl (cI, 35, .inl s_fs))]) hK hP hD [0, 1, 2] rfl rfl (by decide) 0 (ci := 3) rfl rfl) rfl rfl hl.1 rfl (lv_room (Nat.le_of_ble_eq_true rfl)) d_M_addFace_31 ⟨Nat.zero_le _, Nat.zero_le _⟩) hP hD hS hA [0, 1, 2] [3, 4, 5] rfl rfl (by decide) (by decide) (fun H locs hP hD hS => ?_)
      have hP : va_P (dC, dI) vwCl [(gM, .inr (3, [.ref aKe, .ref aFs, .int r22, .ref aLi, .ref aWa, .int s_wn, .ref aRi, .int s_rn])), (aKe, .inl (cI, 35, .inl r20)), (aFs, .inl (cI, 35, .inl r21)), (aLi, .inl (cI, 20, .inl s_li)), (aWa, .inl (cI, 54, .inl s_wa)), (aRi, .inl (cI, 20, .inl s_ri))] H := hP.sub [3, 4, 5, 0, 1, 2] rfl
      have hD : va_D A [(gM, .inr (3, [.ref aKe, .ref aFs, .int r22, .ref aLi, .ref aWa, .int s_wn, .ref aRi, .int s_rn])), (aKe, .inl (cI, 35, .inl r20)), (aFs, .inl (cI, 35, .inl r21)), (aLi, .inl (cI, 20, .inl s_li)), (aWa, .inl (cI, 54, .inl s_wa)), (aRi, .inl (cI, 20, .inl s_ri))] := hD.sub [3, 4, 5, 0, 1, 2] (by decide) rfl
      refine lv_iinc (v := (x1 + 1)) (lv' := [(1, .int (x1 + 1)), (0, .ref gM)]) hx hb d_M_addFace_34 hl (k := 1) rfl rfl (by decide) rfl (fun ls hl => ?_)
      refine lv_goto (tgt := 2) hx hb d_M_addFace_37 (by decide) ?_
      exact ih r20 r21 r22 s_li s_wa s_wn (x1 + 1) hf _ _ hP hD hS ls (lv_sub hl [1, 0] rfl)
set_option maxHeartbeats 4000000 in
set_option maxRecDepth 100000 in
theorem t_M_addFace_e {p : Program} {l : Launch} {e : Env} {s : State} {m : MethodId} {args : Array Value} {below : List Frame} {meth : Method} {c : Code} {dC : Nat → ClassId} {dI : Nat → Nat → Nat} {cI cZ : ClassId} {gM aKe aFs aLi aWa aRi : Nat} {s_ri : Nat → Int32} {s_rn : Int32} {s_ke' : Nat → Int32} {s_fs' : Nat → Int32} {s_mn' : Int32} {s_li' : Nat → Int32} {s_wa' : Nat → Int32} {s_wn' : Int32} {A : Nat → Prop} (C0 : cx p s m args meth c b_M_addFace none 4 R_M) (hK : gK dC dI cI cZ s) (hA : ∀ q, s.heap.size ≤ q → A q) : ∀ (s_ke : Nat → Int32) (s_fs : Nat → Int32) (s_mn : Int32) (s_li : Nat → Int32) (s_wa : Nat → Int32) (s_wn : Int32), f_M_addFace s_ke s_fs s_mn s_li s_wa s_wn s_ri s_rn = some (s_ke', s_fs', s_mn', s_li', s_wa', s_wn') → ∀ (H : Heap) (locs : List Loc), va_P (dC, dI) vwCl [(gM, .inr (3, [.ref aKe, .ref aFs, .int s_mn, .ref aLi, .ref aWa, .int s_wn, .ref aRi, .int s_rn])), (aKe, .inl (cI, 35, .inl s_ke)), (aFs, .inl (cI, 35, .inl s_fs)), (aLi, .inl (cI, 20, .inl s_li)), (aWa, .inl (cI, 54, .inl s_wa)), (aRi, .inl (cI, 20, .inl s_ri))] H → va_D A [(gM, .inr (3, [.ref aKe, .ref aFs, .int s_mn, .ref aLi, .ref aWa, .int s_wn, .ref aRi, .int s_rn])), (aKe, .inl (cI, 35, .inl s_ke)), (aFs, .inl (cI, 35, .inl s_fs)), (aLi, .inl (cI, 20, .inl s_li)), (aWa, .inl (cI, 54, .inl s_wa)), (aRi, .inl (cI, 20, .inl s_ri))] → va_S A s.heap H locs → ∀ (ls : Array Slot), lv_has ls 4 [(0, .ref gM)] → W p l e (headSpec w_M_addFace ({ frames := 1, cells := 0, slots := 0, locals := 25 } : Room)).room s m args below meth c H locs 0 0 (MQ below (QwV dC dI A [(gM, .inr (3, [.ref aKe, .ref aFs, .int s_mn', .ref aLi, .ref aWa, .int s_wn', .ref aRi, .int s_rn])), (aKe, .inl (cI, 35, .inl s_ke')), (aFs, .inl (cI, 35, .inl s_fs')), (aLi, .inl (cI, 20, .inl s_li')), (aWa, .inl (cI, 54, .inl s_wa')), (aRi, .inl (cI, 20, .inl s_ri))]) args s 0 0 A) (F0 m 0 ls []) := by
  obtain ⟨hx, hb, hr, hml, hts, hown, hlocks⟩ := id C0
  intro s_ke s_fs s_mn s_li s_wa s_wn hf H locs hP hD hS ls hl
  refine lv_iconst (v := (2 : Int32)) hx hb d_M_addFace_0 rfl ?_
  refine lv_istore_n (lv' := [(1, .int (2 : Int32)), (0, .ref gM)]) hx hb d_M_addFace_1 rfl hl (by decide) rfl (fun ls hl => ?_)
  exact t_M_addFace_L2 C0 hK hA  600 s_ke s_fs s_mn s_li s_wa s_wn (2 : Int32) hf _ _ hP hD hS ls (lv_sub hl [1, 0] rfl)
set_option maxHeartbeats 4000000 in
set_option maxRecDepth 100000 in
theorem c_M_addFace (l : Launch) (dC : Nat → ClassId) (dI : Nat → Nat → Nat) (cI cZ : ClassId) (gM aKe aFs aLi aWa aRi : Nat) (s_ke : Nat → Int32) (s_fs : Nat → Int32) (s_mn : Int32) (s_li : Nat → Int32) (s_wa : Nat → Int32) (s_wn : Int32) (s_ri : Nat → Int32) (s_rn : Int32) (s_ke' : Nat → Int32) (s_fs' : Nat → Int32) (s_mn' : Int32) (s_li' : Nat → Int32) (s_wa' : Nat → Int32) (s_wn' : Int32) (sz : Nat) (hf : f_M_addFace s_ke s_fs s_mn s_li s_wa s_wn s_ri s_rn = some (s_ke', s_fs', s_mn', s_li', s_wa', s_wn')) : Met l y_M_addFace w_M_addFace ({ frames := 1, cells := 0, slots := 0, locals := 25 } : Room) (PcW dC dI cI cZ [.ref gM] [(gM, .inr (3, [.ref aKe, .ref aFs, .int s_mn, .ref aLi, .ref aWa, .int s_wn, .ref aRi, .int s_rn])), (aKe, .inl (cI, 35, .inl s_ke)), (aFs, .inl (cI, 35, .inl s_fs)), (aLi, .inl (cI, 20, .inl s_li)), (aWa, .inl (cI, 54, .inl s_wa)), (aRi, .inl (cI, 20, .inl s_ri))] sz) (QwV dC dI (va_A [(gM, .inr (3, [.ref aKe, .ref aFs, .int s_mn, .ref aLi, .ref aWa, .int s_wn, .ref aRi, .int s_rn])), (aKe, .inl (cI, 35, .inl s_ke)), (aFs, .inl (cI, 35, .inl s_fs)), (aLi, .inl (cI, 20, .inl s_li)), (aWa, .inl (cI, 54, .inl s_wa)), (aRi, .inl (cI, 20, .inl s_ri))] sz) [(gM, .inr (3, [.ref aKe, .ref aFs, .int s_mn', .ref aLi, .ref aWa, .int s_wn', .ref aRi, .int s_rn])), (aKe, .inl (cI, 35, .inl s_ke')), (aFs, .inl (cI, 35, .inl s_fs')), (aLi, .inl (cI, 20, .inl s_li')), (aWa, .inl (cI, 54, .inl s_wa')), (aRi, .inl (cI, 20, .inl s_ri))]) 0 0 (va_A [(gM, .inr (3, [.ref aKe, .ref aFs, .int s_mn, .ref aLi, .ref aWa, .int s_wn, .ref aRi, .int s_rn])), (aKe, .inl (cI, 35, .inl s_ke)), (aFs, .inl (cI, 35, .inl s_fs)), (aLi, .inl (cI, 20, .inl s_li)), (aWa, .inl (cI, 54, .inl s_wa)), (aRi, .inl (cI, 20, .inl s_ri))] sz) := by
  refine Met.ofW (cc := b_M_addFace) (maxL := 4) (ret := none) (by decide) rfl ?_
  intro p e s m args below meth c s₁ B hml hv
  obtain ⟨rfl, hsz, hP, hK, hD0⟩ := hv
  have C0 : cx p s m _ meth c b_M_addFace none 4 R_M := ⟨B.exec, B.bytes, B.returns, hml, fun w hw => atoms_spec (ws := w_M_addFace) B.pre w (List.mem_cons_of_mem _ hw), findClass_of_methodNamed B.named, B.notSynchronized⟩
  subst hsz
  have hD := hD0.self (sz := s.heap.size)
  generalize hAe : va_A [(gM, .inr (3, [.ref aKe, .ref aFs, .int s_mn, .ref aLi, .ref aWa, .int s_wn, .ref aRi, .int s_rn])), (aKe, .inl (cI, 35, .inl s_ke)), (aFs, .inl (cI, 35, .inl s_fs)), (aLi, .inl (cI, 20, .inl s_li)), (aWa, .inl (cI, 54, .inl s_wa)), (aRi, .inl (cI, 20, .inl s_ri))] s.heap.size = A at hD ⊢
  have hA : ∀ q : Nat, s.heap.size ≤ q → A q := fun q h => by rw [← hAe]; exact Or.inr h
  have hl := lv_entry ([.ref gM]) (n := 4) (Nat.le_of_ble_eq_true rfl)
  rw [lg_entry_eq]
  generalize (lg_sl ([.ref gM]) ++ List.replicate (4 - (lg_sl ([.ref gM])).length) Slot.unset).toArray = ls at hl ⊢
  have hl : lv_has ls 4 [(0, .ref gM)] := hl
  exact t_M_addFace_e C0 hK hA s_ke s_fs s_mn s_li s_wa s_wn hf _ _ hP hD va_S.rf ls hl
set_option maxHeartbeats 4000000 in
set_option maxRecDepth 100000 in
theorem t_M_apexOver_L5 {p : Program} {l : Launch} {e : Env} {s : State} {m : MethodId} {args : Array Value} {below : List Frame} {meth : Method} {c : Code} {dC : Nat → ClassId} {dI : Nat → Nat → Nat} {cI cZ : ClassId} {gP aXs aYs aTk aOr : Nat} {s_xs : Nat → Int32} {s_ys : Nat → Int32} {s_or : Nat → Int32} {s_pn : Int32} {rv : Int32} (C0 : cx p s m args meth c b_M_apexOver (some .int) 6 R_M) (hK : gK dC dI cI cZ s) (hP : va_P (dC, dI) vwCl [(gP, .inr (1, [.ref aXs, .ref aYs, .ref aTk, .ref aOr, .int s_pn])), (aXs, .inl (cI, 20, .inl s_xs)), (aYs, .inl (cI, 20, .inl s_ys)), (aOr, .inl (cI, 20, .inl s_or))] s.heap) : ∀ (n : Nat) (x1 : Int32) (x2 : Int32) (x3 : Int32) (x4 : Int32), f_M_apexOver_L5 s_xs s_ys s_or s_pn n x1 x2 x3 x4 = some rv → ∀ (ls : Array Slot), lv_has ls 6 [(0, .ref gP), (1, .int x1), (2, .int x2), (3, .int x3), (4, .int x4)] → W p l e (headSpec w_M_apexOver ({ frames := 3, cells := 0, slots := 0, locals := 94 } : Room)).room s m args below meth c s.heap [] 0 0 (MQ below (vp_Si (fun r => r = rv)) args s 0 0 (fun _ => False)) (F0 m 5 ls []) := by
  obtain ⟨hx, hb, hr, hml, hts, hown, hlocks⟩ := id C0
  intro n
  induction n with
  | zero =>
    intro x1 x2 x3 x4 hf
    exact (o_n hf).elim
  | succ n ih =>
    intro x1 x2 x3 x4 hf ls hl
    refine lv_iload hx hb d_M_apexOver_5 (lv_at hl 4 rfl) ?_
    refine lv_aload_n hx hb d_M_apexOver_7 rfl (lv_at hl 0 rfl) ?_
    obtain ⟨r1, hv3, hf⟩ := o_b hf
    refine rc_i (va_runV (As := []) (rest := [.int x4]) ⟨hx, hb, hml, hown, hts⟩ (c_P_size l dC dI cI cZ gP aXs aYs aTk aOr s_pn r1 hv3) (cwV 0 hts (gd_V bw_242 bw_145 bw_146 bw_2 bw_147) rfl rfl rfl ⟨rfl, hd_P_size⟩ ⟨Nat.le_of_ble_eq_true rfl, Nat.le_of_ble_eq_true rfl⟩) (pv_r (wc := [(gP, .inr (1, [.ref aXs, .ref aYs, .ref aTk, .ref aOr, .int s_pn]))]) hK hP [0] rfl 0 (ci := 1) rfl rfl) rfl rfl hl.1 rfl (lv_room (Nat.le_of_ble_eq_true rfl)) d_M_apexOver_8 ⟨Nat.zero_le _, Nat.zero_le _⟩) ?_
    refine lv_icmp_ge (tgt := 59) hx hb d_M_apexOver_11 (by decide) (fun hc4 => ?_) (fun hc4 => ?_)
    · have hf := o_t hf hc4
      refine lv_iload_n hx hb d_M_apexOver_59 rfl (lv_at hl 3 rfl) ?_
      cases hf
      exact rr_i hx hb hr hlocks d_M_apexOver_60
    · have hf := o_f hf hc4
      refine lv_aload_n hx hb d_M_apexOver_14 rfl (lv_at hl 0 rfl) ?_
      refine lv_iload hx hb d_M_apexOver_15 (lv_at hl 4 rfl) ?_
      obtain ⟨r5, hv7, hf⟩ := o_b hf
      refine rc_i (va_runV (As := [.int x4]) (rest := []) ⟨hx, hb, hml, hown, hts⟩ (c_P_inOrder l dC dI cI cZ gP aXs aYs aTk aOr s_or s_pn x4 r5 hv7) (cwV 1 hts (gd_V bw_243 bw_178 bw_179 bw_2 bw_180) rfl rfl rfl ⟨rfl, hd_P_inOrder⟩ ⟨Nat.le_of_ble_eq_true rfl, Nat.le_of_ble_eq_true rfl⟩) (pv_r (wc := [(gP, .inr (1, [.ref aXs, .ref aYs, .ref aTk, .ref aOr, .int s_pn])), (aOr, .inl (cI, 20, .inl s_or))]) hK hP [0, 3] rfl 0 (ci := 1) rfl rfl) rfl rfl hl.1 rfl (lv_room (Nat.le_of_ble_eq_true rfl)) d_M_apexOver_17 ⟨Nat.zero_le _, Nat.zero_le _⟩) ?_
      refine lv_istore (lv' := [(5, .int r5), (0, .ref gP), (1, .int x1), (2, .int x2), (3, .int x3), (4, .int x4)]) hx hb d_M_apexOver_20 hl (by decide) rfl (fun ls hl => ?_)
      refine lv_aload_n hx hb d_M_apexOver_22 rfl (lv_at hl 1 rfl) ?_
      refine lv_iload_n hx hb d_M_apexOver_23 rfl (lv_at hl 2 rfl) ?_
      refine lv_iload_n hx hb d_M_apexOver_24 rfl (lv_at hl 3 rfl) ?_
      refine lv_iload hx hb d_M_apexOver_25 (lv_at hl 0 rfl) ?_
      obtain ⟨r8, hv10, hf⟩ := o_b hf
      refine rc_i (va_runV (As := [.int x1, .int x2, .int r5]) (rest := []) ⟨hx, hb, hml, hown, hts⟩ (c_P_side l dC dI cI cZ gP aXs aYs aTk aOr s_xs s_ys s_pn x1 x2 r5 r8 hv10) (cwV 3 hts (gd_V bw_244 bw_182 bw_183 bw_2 bw_184) rfl rfl rfl ⟨rfl, hd_P_side⟩ ⟨Nat.le_of_ble_eq_true rfl, Nat.le_of_ble_eq_true rfl⟩) (pv_r (wc := [(gP, .inr (1, [.ref aXs, .ref aYs, .ref aTk, .ref aOr, .int s_pn])), (aXs, .inl (cI, 20, .inl s_xs)), (aYs, .inl (cI, 20, .inl s_ys))]) hK hP [0, 1, 2] rfl 0 (ci := 1) rfl rfl) rfl rfl hl.1 rfl (lv_room (Nat.le_of_ble_eq_true rfl)) d_M_apexOver_27 ⟨Nat.zero_le _, Nat.zero_le _⟩) ?_
      refine lv_if_le (tgt := 53) hx hb d_M_apexOver_30 (by decide) (fun hc11 => ?_) (fun hc11 => ?_)
      · have hf := o_t hf hc11
        refine lv_iinc (v := (x4 + 1)) (lv' := [(4, .int (x4 + 1)), (5, .int r5), (0, .ref gP), (1, .int x1), (2, .int x2), (3, .int x3)]) hx hb d_M_apexOver_53 hl (k := 5) rfl rfl (by decide) rfl (fun ls hl => ?_)
        refine lv_goto (tgt := 5) hx hb d_M_apexOver_56 (by decide) ?_
        exact ih x1 x2 x3 (x4 + 1) hf ls (lv_sub hl [2, 3, 4, 5, 0] rfl)
      · have hf := o_f hf hc11
        refine lv_iload_n hx hb d_M_apexOver_33 rfl (lv_at hl 4 rfl) ?_
        refine lv_iconst (v := (-1 : Int32)) hx hb d_M_apexOver_34 rfl ?_
        refine lv_icmp_eq (tgt := 50) hx hb d_M_apexOver_35 (by decide) (fun hc12 => ?_) (fun hc12 => ?_)
        · have hf := o_t hf hc12
          refine lv_iload hx hb d_M_apexOver_50 (lv_at hl 0 rfl) ?_
          refine lv_istore_n (lv' := [(3, .int r5), (5, .int r5), (0, .ref gP), (1, .int x1), (2, .int x2), (4, .int x4)]) hx hb d_M_apexOver_52 rfl hl (by decide) rfl (fun ls hl => ?_)
          refine lv_iinc (v := (x4 + 1)) (lv' := [(4, .int (x4 + 1)), (3, .int r5), (5, .int r5), (0, .ref gP), (1, .int x1), (2, .int x2)]) hx hb d_M_apexOver_53 hl (k := 5) rfl rfl (by decide) rfl (fun ls hl => ?_)
          refine lv_goto (tgt := 5) hx hb d_M_apexOver_56 (by decide) ?_
          exact ih x1 x2 r5 (x4 + 1) hf ls (lv_sub hl [3, 4, 5, 1, 0] rfl)
        · have hf := o_f hf hc12
          refine lv_aload_n hx hb d_M_apexOver_38 rfl (lv_at hl 1 rfl) ?_
          refine lv_iload_n hx hb d_M_apexOver_39 rfl (lv_at hl 2 rfl) ?_
          refine lv_iload_n hx hb d_M_apexOver_40 rfl (lv_at hl 3 rfl) ?_
          refine lv_iload_n hx hb d_M_apexOver_41 rfl (lv_at hl 4 rfl) ?_
          refine lv_iload hx hb d_M_apexOver_42 (lv_at hl 0 rfl) ?_
          obtain ⟨r13, hv15, hf⟩ := o_b hf
          refine rc_i (va_runV (As := [.int x1, .int x2, .int x3, .int r5]) (rest := []) ⟨hx, hb, hml, hown, hts⟩ (c_P_circleSide l dC dI cI cZ gP aXs aYs aTk aOr s_xs s_ys s_pn x1 x2 x3 r5 r13 hv15) (cwV 4 hts (gd_V bw_245 bw_246 bw_247 bw_2 bw_248) rfl rfl rfl ⟨rfl, hd_P_circleSide⟩ ⟨Nat.le_of_ble_eq_true rfl, Nat.le_of_ble_eq_true rfl⟩) (pv_r (wc := [(gP, .inr (1, [.ref aXs, .ref aYs, .ref aTk, .ref aOr, .int s_pn])), (aXs, .inl (cI, 20, .inl s_xs)), (aYs, .inl (cI, 20, .inl s_ys))]) hK hP [0, 1, 2] rfl 0 (ci := 1) rfl rfl) rfl rfl hl.1 rfl (lv_room (Nat.le_of_ble_eq_true rfl)) d_M_apexOver_44 ⟨Nat.zero_le _, Nat.zero_le _⟩) ?_
          refine lv_if_le (tgt := 53) hx hb d_M_apexOver_47 (by decide) (fun hc16 => ?_) (fun hc16 => ?_)
          · have hf := o_t hf hc16
            refine lv_iinc (v := (x4 + 1)) (lv' := [(4, .int (x4 + 1)), (5, .int r5), (0, .ref gP), (1, .int x1), (2, .int x2), (3, .int x3)]) hx hb d_M_apexOver_53 hl (k := 5) rfl rfl (by decide) rfl (fun ls hl => ?_)
            refine lv_goto (tgt := 5) hx hb d_M_apexOver_56 (by decide) ?_
            exact ih x1 x2 x3 (x4 + 1) hf ls (lv_sub hl [2, 3, 4, 5, 0] rfl)
          · have hf := o_f hf hc16
            refine lv_iload hx hb d_M_apexOver_50 (lv_at hl 0 rfl) ?_
            refine lv_istore_n (lv' := [(3, .int r5), (5, .int r5), (0, .ref gP), (1, .int x1), (2, .int x2), (4, .int x4)]) hx hb d_M_apexOver_52 rfl hl (by decide) rfl (fun ls hl => ?_)
            refine lv_iinc (v := (x4 + 1)) (lv' := [(4, .int (x4 + 1)), (3, .int r5), (5, .int r5), (0, .ref gP), (1, .int x1), (2, .int x2)]) hx hb d_M_apexOver_53 hl (k := 5) rfl rfl (by decide) rfl (fun ls hl => ?_)
            refine lv_goto (tgt := 5) hx hb d_M_apexOver_56 (by decide) ?_
            exact ih x1 x2 r5 (x4 + 1) hf ls (lv_sub hl [3, 4, 5, 1, 0] rfl)
set_option maxHeartbeats 4000000 in
set_option maxRecDepth 100000 in
theorem c_M_apexOver (l : Launch) (dC : Nat → ClassId) (dI : Nat → Nat → Nat) (cI cZ : ClassId) (gP aXs aYs aTk aOr : Nat) (s_xs : Nat → Int32) (s_ys : Nat → Int32) (s_or : Nat → Int32) (s_pn : Int32) (x1 : Int32) (x2 : Int32) (rv : Int32) (hf : f_M_apexOver s_xs s_ys s_or s_pn x1 x2 = some rv) : Met l y_M_apexOver w_M_apexOver ({ frames := 3, cells := 0, slots := 0, locals := 94 } : Room) (PcR dC dI cI cZ [.ref gP, .int x1, .int x2] [(gP, .inr (1, [.ref aXs, .ref aYs, .ref aTk, .ref aOr, .int s_pn])), (aXs, .inl (cI, 20, .inl s_xs)), (aYs, .inl (cI, 20, .inl s_ys)), (aOr, .inl (cI, 20, .inl s_or))]) (vp_Si (fun r => r = rv)) 0 0 (fun _ => False) := by
  refine Met.ofW (cc := b_M_apexOver) (maxL := 6) (ret := (some .int)) (by decide) rfl ?_
  intro p e s m args below meth c s₁ B hml hv
  obtain ⟨rfl, hP, hK⟩ := hv
  have C0 : cx p s m _ meth c b_M_apexOver (some .int) 6 R_M := ⟨B.exec, B.bytes, B.returns, hml, fun w hw => atoms_spec (ws := w_M_apexOver) B.pre w (List.mem_cons_of_mem _ hw), findClass_of_methodNamed B.named, B.notSynchronized⟩
  obtain ⟨hx, hb, hr, hml, hts, hown, hlocks⟩ := id C0
  have hl := lv_entry ([.ref gP, .int x1, .int x2]) (n := 6) (Nat.le_of_ble_eq_true rfl)
  rw [lg_entry_eq]
  generalize (lg_sl ([.ref gP, .int x1, .int x2]) ++ List.replicate (6 - (lg_sl ([.ref gP, .int x1, .int x2])).length) Slot.unset).toArray = ls at hl ⊢
  have hl : lv_has ls 6 [(0, .ref gP), (1, .int x1), (2, .int x2)] := hl
  refine lv_iconst (v := (-1 : Int32)) hx hb d_M_apexOver_0 rfl ?_
  refine lv_istore_n (lv' := [(3, .int (-1 : Int32)), (0, .ref gP), (1, .int x1), (2, .int x2)]) hx hb d_M_apexOver_1 rfl hl (by decide) rfl (fun ls hl => ?_)
  refine lv_iconst (v := (0 : Int32)) hx hb d_M_apexOver_2 rfl ?_
  refine lv_istore (lv' := [(4, .int (0 : Int32)), (3, .int (-1 : Int32)), (0, .ref gP), (1, .int x1), (2, .int x2)]) hx hb d_M_apexOver_3 hl (by decide) rfl (fun ls hl => ?_)
  exact t_M_apexOver_L5 C0 hK hP  600 x1 x2 (-1 : Int32) (0 : Int32) hf ls (lv_sub hl [2, 3, 4, 1, 0] rfl)
set_option maxHeartbeats 4000000 in
set_option maxRecDepth 100000 in
theorem t_M_spread_b72 {p : Program} {l : Launch} {e : Env} {s : State} {m : MethodId} {args : Array Value} {below : List Frame} {meth : Method} {c : Code} {dC : Nat → ClassId} {dI : Nat → Nat → Nat} {cI cZ : ClassId} {gP aXs aYs aTk aOr gM aKe aFs aLi aWa aRi : Nat} {s_xs : Nat → Int32} {s_ys : Nat → Int32} {s_or : Nat → Int32} {s_pn : Int32} {s_ke' : Nat → Int32} {s_fs' : Nat → Int32} {s_mn' : Int32} {s_li' : Nat → Int32} {s_wa' : Nat → Int32} {s_wn' : Int32} {s_ri' : Nat → Int32} {s_rn' : Int32} {A : Nat → Prop} (C0 : cx p s m args meth c b_M_spread none 6 R_M) (hK : gK dC dI cI cZ s) (hA : ∀ q, s.heap.size ≤ q → A q) {k2 : (Nat → Int32) → (Nat → Int32) → Int32 → (Nat → Int32) → (Nat → Int32) → Int32 → (Nat → Int32) → Int32 → Int32 → Option ((Nat → Int32) × (Nat → Int32) × Int32 × (Nat → Int32) × (Nat → Int32) × Int32 × (Nat → Int32) × Int32)} (hk2 : ∀ (s_ke : Nat → Int32) (s_fs : Nat → Int32) (s_mn : Int32) (s_li : Nat → Int32) (s_wa : Nat → Int32) (s_wn : Int32) (s_ri : Nat → Int32) (s_rn : Int32) (x2 : Int32), k2 s_ke s_fs s_mn s_li s_wa s_wn s_ri s_rn x2 = some (s_ke', s_fs', s_mn', s_li', s_wa', s_wn', s_ri', s_rn') → ∀ (H : Heap) (locs : List Loc), va_P (dC, dI) vwCl [(gP, .inr (1, [.ref aXs, .ref aYs, .ref aTk, .ref aOr, .int s_pn])), (aXs, .inl (cI, 20, .inl s_xs)), (aYs, .inl (cI, 20, .inl s_ys)), (aOr, .inl (cI, 20, .inl s_or)), (gM, .inr (3, [.ref aKe, .ref aFs, .int s_mn, .ref aLi, .ref aWa, .int s_wn, .ref aRi, .int s_rn])), (aKe, .inl (cI, 35, .inl s_ke)), (aFs, .inl (cI, 35, .inl s_fs)), (aLi, .inl (cI, 20, .inl s_li)), (aWa, .inl (cI, 54, .inl s_wa)), (aRi, .inl (cI, 20, .inl s_ri))] H → va_D A [(gP, .inr (1, [.ref aXs, .ref aYs, .ref aTk, .ref aOr, .int s_pn])), (aXs, .inl (cI, 20, .inl s_xs)), (aYs, .inl (cI, 20, .inl s_ys)), (aOr, .inl (cI, 20, .inl s_or)), (gM, .inr (3, [.ref aKe, .ref aFs, .int s_mn, .ref aLi, .ref aWa, .int s_wn, .ref aRi, .int s_rn])), (aKe, .inl (cI, 35, .inl s_ke)), (aFs, .inl (cI, 35, .inl s_fs)), (aLi, .inl (cI, 20, .inl s_li)), (aWa, .inl (cI, 54, .inl s_wa)), (aRi, .inl (cI, 20, .inl s_ri))] → va_S A s.heap H locs → ∀ (ls : Array Slot), lv_has ls 6 [(0, .ref gM), (1, .ref gP), (2, .int x2)] → W p l e (headSpec w_M_spread ({ frames := 4, cells := 0, slots := 0, locals := 120 } : Room)).room s m args below meth c H locs 0 0 (MQ below (QwV dC dI A [(gP, .inr (1, [.ref aXs, .ref aYs, .ref aTk, .ref aOr, .int s_pn])), (aXs, .inl (cI, 20, .inl s_xs)), (aYs, .inl (cI, 20, .inl s_ys)), (aOr, .inl (cI, 20, .inl s_or)), (gM, .inr (3, [.ref aKe, .ref aFs, .int s_mn', .ref aLi, .ref aWa, .int s_wn', .ref aRi, .int s_rn'])), (aKe, .inl (cI, 35, .inl s_ke')), (aFs, .inl (cI, 35, .inl s_fs')), (aLi, .inl (cI, 20, .inl s_li')), (aWa, .inl (cI, 54, .inl s_wa')), (aRi, .inl (cI, 20, .inl s_ri'))]) args s 0 0 A) (F0 m 2 ls [])) : ∀ (s_ke : Nat → Int32) (s_fs : Nat → Int32) (s_mn : Int32) (s_li : Nat → Int32) (s_wa : Nat → Int32) (s_wn : Int32) (s_ri : Nat → Int32) (s_rn : Int32) (x2 : Int32) (x3 : Int32) (x4 : Int32) (z0 : Int32), f_M_spread_b72 k2 s_xs s_ys s_or s_pn s_ke s_fs s_mn s_li s_wa s_wn s_ri s_rn x2 x3 x4 z0 = some (s_ke', s_fs', s_mn', s_li', s_wa', s_wn', s_ri', s_rn') → ∀ (H : Heap) (locs : List Loc), va_P (dC, dI) vwCl [(gP, .inr (1, [.ref aXs, .ref aYs, .ref aTk, .ref aOr, .int s_pn])), (aXs, .inl (cI, 20, .inl s_xs)), (aYs, .inl (cI, 20, .inl s_ys)), (aOr, .inl (cI, 20, .inl s_or)), (gM, .inr (3, [.ref aKe, .ref aFs, .int s_mn, .ref aLi, .ref aWa, .int s_wn, .ref aRi, .int s_rn])), (aKe, .inl (cI, 35, .inl s_ke)), (aFs, .inl (cI, 35, .inl s_fs)), (aLi, .inl (cI, 20, .inl s_li)), (aWa, .inl (cI, 54, .inl s_wa)), (aRi, .inl (cI, 20, .inl s_ri))] H → va_D A [(gP, .inr (1, [.ref aXs, .ref aYs, .ref aTk, .ref aOr, .int s_pn])), (aXs, .inl (cI, 20, .inl s_xs)), (aYs, .inl (cI, 20, .inl s_ys)), (aOr, .inl (cI, 20, .inl s_or)), (gM, .inr (3, [.ref aKe, .ref aFs, .int s_mn, .ref aLi, .ref aWa, .int s_wn, .ref aRi, .int s_rn])), (aKe, .inl (cI, 35, .inl s_ke)), (aFs, .inl (cI, 35, .inl s_fs)), (aLi, .inl (cI, 20, .inl s_li)), (aWa, .inl (cI, 54, .inl s_wa)), (aRi, .inl (cI, 20, .inl s_ri))] → va_S A s.heap H locs → ∀ (ls : Array Slot), lv_has ls 6 [(0, .ref gM), (1, .ref gP), (2, .int x2), (3, .int x3), (4, .int x4)] → W p l e (headSpec w_M_spread ({ frames := 4, cells := 0, slots := 0, locals := 120 } : Room)).room s m args below meth c H locs 0 0 (MQ below (QwV dC dI A [(gP, .inr (1, [.ref aXs, .ref aYs, .ref aTk, .ref aOr, .int s_pn])), (aXs, .inl (cI, 20, .inl s_xs)), (aYs, .inl (cI, 20, .inl s_ys)), (aOr, .inl (cI, 20, .inl s_or)), (gM, .inr (3, [.ref aKe, .ref aFs, .int s_mn', .ref aLi, .ref aWa, .int s_wn', .ref aRi, .int s_rn'])), (aKe, .inl (cI, 35, .inl s_ke')), (aFs, .inl (cI, 35, .inl s_fs')), (aLi, .inl (cI, 20, .inl s_li')), (aWa, .inl (cI, 54, .inl s_wa')), (aRi, .inl (cI, 20, .inl s_ri'))]) args s 0 0 A) (F0 m 72 ls [.int z0]) := by
  obtain ⟨hx, hb, hr, hml, hts, hown, hlocks⟩ := id C0
  intro s_ke s_fs s_mn s_li s_wa s_wn s_ri s_rn x2 x3 x4 z0 hf H locs hP hD hS ls hl
  refine lv_istore (lv' := [(5, .int z0), (0, .ref gM), (1, .ref gP), (2, .int x2), (3, .int x3), (4, .int x4)]) hx hb d_M_spread_72 hl (by decide) rfl (fun ls hl => ?_)
  refine lv_iload hx hb d_M_spread_74 (lv_at hl 0 rfl) ?_
  refine lv_iconst (v := (-1 : Int32)) hx hb d_M_spread_76 rfl ?_
  refine lv_icmp_eq (tgt := 94) hx hb d_M_spread_77 (by decide) (fun hc1 => ?_) (fun hc1 => ?_)
  · have hf := o_t hf hc1
    refine lv_iinc (v := (x2 + 1)) (lv' := [(2, .int (x2 + 1)), (5, .int z0), (0, .ref gM), (1, .ref gP), (3, .int x3), (4, .int x4)]) hx hb d_M_spread_94 hl (k := 3) rfl rfl (by decide) rfl (fun ls hl => ?_)
    refine lv_goto (tgt := 2) hx hb d_M_spread_97 (by decide) ?_
    exact hk2 s_ke s_fs s_mn s_li s_wa s_wn s_ri s_rn (x2 + 1) hf _ _ hP hD hS ls (lv_sub hl [2, 3, 0] rfl)
  · have hf := o_f hf hc1
    refine lv_aload_n hx hb d_M_spread_80 rfl (lv_at hl 1 rfl) ?_
    refine lv_aload_n hx hb d_M_spread_81 rfl (lv_at hl 2 rfl) ?_
    refine lv_iload_n hx hb d_M_spread_82 rfl (lv_at hl 4 rfl) ?_
    refine lv_iload hx hb d_M_spread_83 (lv_at hl 5 rfl) ?_
    refine lv_iload hx hb d_M_spread_85 (lv_at hl 0 rfl) ?_
    obtain ⟨⟨r2, r3⟩, hv5, hf⟩ := o_b hf
    refine wc_v (wr := [(aKe, .inl (cI, 35, .inl s_ke)), (aFs, .inl (cI, 35, .inl s_fs)), (aLi, .inl (cI, 20, .inl s_li)), (aWa, .inl (cI, 54, .inl s_wa))]) (w1 := [(gP, .inr (1, [.ref aXs, .ref aYs, .ref aTk, .ref aOr, .int s_pn])), (aXs, .inl (cI, 20, .inl s_xs)), (aYs, .inl (cI, 20, .inl s_ys)), (aOr, .inl (cI, 20, .inl s_or)), (gM, .inr (3, [.ref aKe, .ref aFs, .int s_mn, .ref aLi, .ref aWa, .int s_wn, .ref aRi, .int r3])), (aRi, .inl (cI, 20, .inl r2))]) (va_runV (As := [.ref gP, .int x3, .int x4, .int z0]) (rest := []) ⟨hx, hb, hml, hown, hts⟩ (c_M_gatherRing l dC dI cI cZ gP aXs aYs aTk aOr gM aKe aFs aLi aWa aRi s_xs s_ys s_or s_pn s_mn s_wn s_ri s_rn x3 x4 z0 r2 r3 H.size hv5) (cwV 4 hts (gd_V bw_253 bw_255 bp_8 bw_4 bw_256) rfl rfl rfl ⟨rfl, hd_M_gatherRing⟩ ⟨Nat.le_of_ble_eq_true rfl, Nat.le_of_ble_eq_true rfl⟩) (pv_w (wc := [(gP, .inr (1, [.ref aXs, .ref aYs, .ref aTk, .ref aOr, .int s_pn])), (aXs, .inl (cI, 20, .inl s_xs)), (aYs, .inl (cI, 20, .inl s_ys)), (aOr, .inl (cI, 20, .inl s_or)), (gM, .inr (3, [.ref aKe, .ref aFs, .int s_mn, .ref aLi, .ref aWa, .int s_wn, .ref aRi, .int s_rn])), (aRi, .inl (cI, 20, .inl s_ri))]) hK hP hD [0, 1, 2, 3, 4, 9] rfl rfl (by decide) 4 (ci := 3) rfl rfl) rfl rfl hl.1 rfl (lv_room (Nat.le_of_ble_eq_true rfl)) d_M_spread_87 ⟨Nat.zero_le _, Nat.zero_le _⟩) hP hD hS hA [0, 1, 2, 3, 4, 9] [5, 6, 7, 8] rfl rfl (by decide) (by decide) (fun H locs hP hD hS => ?_)
    have hP : va_P (dC, dI) vwCl [(gP, .inr (1, [.ref aXs, .ref aYs, .ref aTk, .ref aOr, .int s_pn])), (aXs, .inl (cI, 20, .inl s_xs)), (aYs, .inl (cI, 20, .inl s_ys)), (aOr, .inl (cI, 20, .inl s_or)), (gM, .inr (3, [.ref aKe, .ref aFs, .int s_mn, .ref aLi, .ref aWa, .int s_wn, .ref aRi, .int r3])), (aKe, .inl (cI, 35, .inl s_ke)), (aFs, .inl (cI, 35, .inl s_fs)), (aLi, .inl (cI, 20, .inl s_li)), (aWa, .inl (cI, 54, .inl s_wa)), (aRi, .inl (cI, 20, .inl r2))] H := hP.sub [4, 5, 6, 7, 8, 0, 1, 2, 3, 9] rfl
    have hD : va_D A [(gP, .inr (1, [.ref aXs, .ref aYs, .ref aTk, .ref aOr, .int s_pn])), (aXs, .inl (cI, 20, .inl s_xs)), (aYs, .inl (cI, 20, .inl s_ys)), (aOr, .inl (cI, 20, .inl s_or)), (gM, .inr (3, [.ref aKe, .ref aFs, .int s_mn, .ref aLi, .ref aWa, .int s_wn, .ref aRi, .int r3])), (aKe, .inl (cI, 35, .inl s_ke)), (aFs, .inl (cI, 35, .inl s_fs)), (aLi, .inl (cI, 20, .inl s_li)), (aWa, .inl (cI, 54, .inl s_wa)), (aRi, .inl (cI, 20, .inl r2))] := hD.sub [4, 5, 6, 7, 8, 0, 1, 2, 3, 9] (by decide) rfl
    refine lv_aload_n hx hb d_M_spread_90 rfl (lv_at hl 1 rfl) ?_
    obtain ⟨⟨r6, r7, r8, r9, r10, r11⟩, hv13, hf⟩ := o_b hf
    refine wc_v (wr := [(gP, .inr (1, [.ref aXs, .ref aYs, .ref aTk, .ref aOr, .int s_pn])), (aXs, .inl (cI, 20, .inl s_xs)), (aYs, .inl (cI, 20, .inl s_ys)), (aOr, .inl (cI, 20, .inl s_or))]) (w1 := [(gM, .inr (3, [.ref aKe, .ref aFs, .int r8, .ref aLi, .ref aWa, .int r11, .ref aRi, .int r3])), (aKe, .inl (cI, 35, .inl r6)), (aFs, .inl (cI, 35, .inl r7)), (aLi, .inl (cI, 20, .inl r9)), (aWa, .inl (cI, 54, .inl r10)), (aRi, .inl (cI, 20, .inl r2))]) (va_runV (As := []) (rest := []) ⟨hx, hb, hml, hown, hts⟩ (c_M_addFace l dC dI cI cZ gM aKe aFs aLi aWa aRi s_ke s_fs s_mn s_li s_wa s_wn r2 r3 r6 r7 r8 r9 r10 r11 H.size hv13) (cwV 0 hts (gd_V bw_261 bw_263 bp_10 bw_4 bw_264) rfl rfl rfl ⟨rfl, hd_M_addFace⟩ ⟨Nat.le_of_ble_eq_true rfl, Nat.le_of_ble_eq_true rfl⟩) (pv_w (wc := [(gM, .inr (3, [.ref aKe, .ref aFs, .int s_mn, .ref aLi, .ref aWa, .int s_wn, .ref aRi, .int r3])), (aKe, .inl (cI, 35, .inl s_ke)), (aFs, .inl (cI, 35, .inl s_fs)), (aLi, .inl (cI, 20, .inl s_li)), (aWa, .inl (cI, 54, .inl s_wa)), (aRi, .inl (cI, 20, .inl r2))]) hK hP hD [4, 5, 6, 7, 8, 9] rfl rfl (by decide) 0 (ci := 3) rfl rfl) rfl rfl hl.1 rfl (lv_room (Nat.le_of_ble_eq_true rfl)) d_M_spread_91 ⟨Nat.zero_le _, Nat.zero_le _⟩) hP hD hS hA [4, 5, 6, 7, 8, 9] [0, 1, 2, 3] rfl rfl (by decide) (by decide) (fun H locs hP hD hS => ?_)
    have hP : va_P (dC, dI) vwCl [(gP, .inr (1, [.ref aXs, .ref aYs, .ref aTk, .ref aOr, .int s_pn])), (aXs, .inl (cI, 20, .inl s_xs)), (aYs, .inl (cI, 20, .inl s_ys)), (aOr, .inl (cI, 20, .inl s_or)), (gM, .inr (3, [.ref aKe, .ref aFs, .int r8, .ref aLi, .ref aWa, .int r11, .ref aRi, .int r3])), (aKe, .inl (cI, 35, .inl r6)), (aFs, .inl (cI, 35, .inl r7)), (aLi, .inl (cI, 20, .inl r9)), (aWa, .inl (cI, 54, .inl r10)), (aRi, .inl (cI, 20, .inl r2))] H := hP.sub [0, 1, 2, 3, 4, 5, 6, 7, 8, 9] rfl
    have hD : va_D A [(gP, .inr (1, [.ref aXs, .ref aYs, .ref aTk, .ref aOr, .int s_pn])), (aXs, .inl (cI, 20, .inl s_xs)), (aYs, .inl (cI, 20, .inl s_ys)), (aOr, .inl (cI, 20, .inl s_or)), (gM, .inr (3, [.ref aKe, .ref aFs, .int r8, .ref aLi, .ref aWa, .int r11, .ref aRi, .int r3])), (aKe, .inl (cI, 35, .inl r6)), (aFs, .inl (cI, 35, .inl r7)), (aLi, .inl (cI, 20, .inl r9)), (aWa, .inl (cI, 54, .inl r10)), (aRi, .inl (cI, 20, .inl r2))] := hD.sub [0, 1, 2, 3, 4, 5, 6, 7, 8, 9] (by decide) rfl
    refine lv_iinc (v := (x2 + 1)) (lv' := [(2, .int (x2 + 1)), (5, .int z0), (0, .ref gM), (1, .ref gP), (3, .int x3), (4, .int x4)]) hx hb d_M_spread_94 hl (k := 3) rfl rfl (by decide) rfl (fun ls hl => ?_)
    refine lv_goto (tgt := 2) hx hb d_M_spread_97 (by decide) ?_
    exact hk2 r6 r7 r8 r9 r10 r11 r2 r3 (x2 + 1) hf _ _ hP hD hS ls (lv_sub hl [2, 3, 0] rfl)
set_option maxHeartbeats 4000000 in
set_option maxRecDepth 100000 in
theorem t_M_spread_L2 {p : Program} {l : Launch} {e : Env} {s : State} {m : MethodId} {args : Array Value} {below : List Frame} {meth : Method} {c : Code} {dC : Nat → ClassId} {dI : Nat → Nat → Nat} {cI cZ : ClassId} {gP aXs aYs aTk aOr gM aKe aFs aLi aWa aRi : Nat} {s_xs : Nat → Int32} {s_ys : Nat → Int32} {s_or : Nat → Int32} {s_pn : Int32} {s_ke' : Nat → Int32} {s_fs' : Nat → Int32} {s_mn' : Int32} {s_li' : Nat → Int32} {s_wa' : Nat → Int32} {s_wn' : Int32} {s_ri' : Nat → Int32} {s_rn' : Int32} {A : Nat → Prop} (C0 : cx p s m args meth c b_M_spread none 6 R_M) (hK : gK dC dI cI cZ s) (hA : ∀ q, s.heap.size ≤ q → A q) : ∀ (n : Nat) (s_ke : Nat → Int32) (s_fs : Nat → Int32) (s_mn : Int32) (s_li : Nat → Int32) (s_wa : Nat → Int32) (s_wn : Int32) (s_ri : Nat → Int32) (s_rn : Int32) (x2 : Int32), f_M_spread_L2 s_xs s_ys s_or s_pn n s_ke s_fs s_mn s_li s_wa s_wn s_ri s_rn x2 = some (s_ke', s_fs', s_mn', s_li', s_wa', s_wn', s_ri', s_rn') → ∀ (H : Heap) (locs : List Loc), va_P (dC, dI) vwCl [(gP, .inr (1, [.ref aXs, .ref aYs, .ref aTk, .ref aOr, .int s_pn])), (aXs, .inl (cI, 20, .inl s_xs)), (aYs, .inl (cI, 20, .inl s_ys)), (aOr, .inl (cI, 20, .inl s_or)), (gM, .inr (3, [.ref aKe, .ref aFs, .int s_mn, .ref aLi, .ref aWa, .int s_wn, .ref aRi, .int s_rn])), (aKe, .inl (cI, 35, .inl s_ke)), (aFs, .inl (cI, 35, .inl s_fs)), (aLi, .inl (cI, 20, .inl s_li)), (aWa, .inl (cI, 54, .inl s_wa)), (aRi, .inl (cI, 20, .inl s_ri))] H → va_D A [(gP, .inr (1, [.ref aXs, .ref aYs, .ref aTk, .ref aOr, .int s_pn])), (aXs, .inl (cI, 20, .inl s_xs)), (aYs, .inl (cI, 20, .inl s_ys)), (aOr, .inl (cI, 20, .inl s_or)), (gM, .inr (3, [.ref aKe, .ref aFs, .int s_mn, .ref aLi, .ref aWa, .int s_wn, .ref aRi, .int s_rn])), (aKe, .inl (cI, 35, .inl s_ke)), (aFs, .inl (cI, 35, .inl s_fs)), (aLi, .inl (cI, 20, .inl s_li)), (aWa, .inl (cI, 54, .inl s_wa)), (aRi, .inl (cI, 20, .inl s_ri))] → va_S A s.heap H locs → ∀ (ls : Array Slot), lv_has ls 6 [(0, .ref gM), (1, .ref gP), (2, .int x2)] → W p l e (headSpec w_M_spread ({ frames := 4, cells := 0, slots := 0, locals := 120 } : Room)).room s m args below meth c H locs 0 0 (MQ below (QwV dC dI A [(gP, .inr (1, [.ref aXs, .ref aYs, .ref aTk, .ref aOr, .int s_pn])), (aXs, .inl (cI, 20, .inl s_xs)), (aYs, .inl (cI, 20, .inl s_ys)), (aOr, .inl (cI, 20, .inl s_or)), (gM, .inr (3, [.ref aKe, .ref aFs, .int s_mn', .ref aLi, .ref aWa, .int s_wn', .ref aRi, .int s_rn'])), (aKe, .inl (cI, 35, .inl s_ke')), (aFs, .inl (cI, 35, .inl s_fs')), (aLi, .inl (cI, 20, .inl s_li')), (aWa, .inl (cI, 54, .inl s_wa')), (aRi, .inl (cI, 20, .inl s_ri'))]) args s 0 0 A) (F0 m 2 ls []) := by
  obtain ⟨hx, hb, hr, hml, hts, hown, hlocks⟩ := id C0
  intro n
  induction n with
  | zero =>
    intro s_ke s_fs s_mn s_li s_wa s_wn s_ri s_rn x2 hf
    exact (o_n hf).elim
  | succ n ih =>
    intro s_ke s_fs s_mn s_li s_wa s_wn s_ri s_rn x2 hf H locs hP hD hS ls hl
    refine lv_iload_n hx hb d_M_spread_2 rfl (lv_at hl 2 rfl) ?_
    refine lv_bipush (v := (54 : Int32)) hx hb d_M_spread_3 rfl ?_
    refine lv_icmp_ge (tgt := 100) hx hb d_M_spread_5 (by decide) (fun hc14 => ?_) (fun hc14 => ?_)
    · have hf := o_t hf hc14
      cases hf
      exact wr_v hx hb hr hlocks hP hD hS d_M_spread_100
    · have hf := o_f hf hc14
      refine lv_aload_n hx hb d_M_spread_8 rfl (lv_at hl 0 rfl) ?_
      refine va_get (D := (dC, dI)) (ci := 3) (v := .int s_wn) (C := R_M) (T := T_M) (N := 8) hx hb hts in_M hown hK.1 hP 4 rfl rfl 5 (by decide) (hts _ bw_66) (fun _ h9 => h9) rfl d_M_spread_9 ?_
      refine lv_if_le (tgt := 100) hx hb d_M_spread_12 (by decide) (fun hc15 => ?_) (fun hc15 => ?_)
      · have hf := o_t hf hc15
        cases hf
        exact wr_v hx hb hr hlocks hP hD hS d_M_spread_100
      · have hf := o_f hf hc15
        refine lv_aload_n hx hb d_M_spread_15 rfl (lv_at hl 0 rfl) ?_
        refine lv_dup hx hb d_M_spread_16 rfl ?_
        refine va_get (D := (dC, dI)) (ci := 3) (v := .int s_wn) (C := R_M) (T := T_M) (N := 8) hx hb hts in_M hown hK.1 hP 4 rfl rfl 5 (by decide) (hts _ bw_66) (fun _ h9 => h9) rfl d_M_spread_17 ?_
        refine lv_iconst (v := (1 : Int32)) hx hb d_M_spread_20 rfl ?_
        refine lv_isub hx hb d_M_spread_21 ?_
        refine va_put (D := (dC, dI)) (ci := 3) (v := .int (s_wn - (1 : Int32))) (ty := .int) (C := R_M) (T := T_M) (N := 8) hx hb hts in_M ty_M tok_M nok_M hown hK.1 hP hD hS 4 rfl rfl 5 (by decide) (hts _ bw_66) (fun _ h9 => h9) rfl (by decide +kernel) rfl rfl (Nat.le_of_ble_eq_true rfl) d_M_spread_22 (fun H locs hP hD hS => ?_)
        have hP : va_P (dC, dI) vwCl [(gP, .inr (1, [.ref aXs, .ref aYs, .ref aTk, .ref aOr, .int s_pn])), (aXs, .inl (cI, 20, .inl s_xs)), (aYs, .inl (cI, 20, .inl s_ys)), (aOr, .inl (cI, 20, .inl s_or)), (gM, .inr (3, [.ref aKe, .ref aFs, .int s_mn, .ref aLi, .ref aWa, .int (s_wn - (1 : Int32)), .ref aRi, .int s_rn])), (aKe, .inl (cI, 35, .inl s_ke)), (aFs, .inl (cI, 35, .inl s_fs)), (aLi, .inl (cI, 20, .inl s_li)), (aWa, .inl (cI, 54, .inl s_wa)), (aRi, .inl (cI, 20, .inl s_ri))] H := hP
        have hD : va_D A [(gP, .inr (1, [.ref aXs, .ref aYs, .ref aTk, .ref aOr, .int s_pn])), (aXs, .inl (cI, 20, .inl s_xs)), (aYs, .inl (cI, 20, .inl s_ys)), (aOr, .inl (cI, 20, .inl s_or)), (gM, .inr (3, [.ref aKe, .ref aFs, .int s_mn, .ref aLi, .ref aWa, .int (s_wn - (1 : Int32)), .ref aRi, .int s_rn])), (aKe, .inl (cI, 35, .inl s_ke)), (aFs, .inl (cI, 35, .inl s_fs)), (aLi, .inl (cI, 20, .inl s_li)), (aWa, .inl (cI, 54, .inl s_wa)), (aRi, .inl (cI, 20, .inl s_ri))] := hD
        refine lv_aload_n hx hb d_M_spread_25 rfl (lv_at hl 0 rfl) ?_
        refine va_get (D := (dC, dI)) (ci := 3) (v := .ref aWa) (C := R_M) (T := T_M) (N := 8) hx hb hts in_M hown hK.1 hP 4 rfl rfl 4 (by decide) (hts _ bw_65) (fun _ h9 => h9) rfl d_M_spread_26 ?_
        refine lv_aload_n hx hb d_M_spread_29 rfl (lv_at hl 0 rfl) ?_
        refine va_get (D := (dC, dI)) (ci := 3) (v := .int (s_wn - (1 : Int32))) (C := R_M) (T := T_M) (N := 8) hx hb hts in_M hown hK.1 hP 4 rfl rfl 5 (by decide) (hts _ bw_66) (fun _ h9 => h9) rfl d_M_spread_30 ?_
        obtain ⟨hi16, hf⟩ := o_i hf
        refine va_iald (cA := cI) (n := 54) (f := s_wa) hx hb hK.1 hP 8 0 rfl rfl hi16 d_M_spread_33 ?_
        refine lv_iconst (v := (5 : Int32)) hx hb d_M_spread_34 rfl ?_
        refine lv_ishr hx hb d_M_spread_35 ?_
        refine lv_istore_n (lv' := [(3, .int ((s_wa (s_wn - (1 : Int32)).toNatClampNeg) >>> ((5 : Int32) &&& 31))), (0, .ref gM), (1, .ref gP), (2, .int x2)]) hx hb d_M_spread_36 rfl hl (by decide) rfl (fun ls hl => ?_)
        refine lv_aload_n hx hb d_M_spread_37 rfl (lv_at hl 1 rfl) ?_
        refine va_get (D := (dC, dI)) (ci := 3) (v := .ref aWa) (C := R_M) (T := T_M) (N := 8) hx hb hts in_M hown hK.1 hP 4 rfl rfl 4 (by decide) (hts _ bw_65) (fun _ h9 => h9) rfl d_M_spread_38 ?_
        refine lv_aload_n hx hb d_M_spread_41 rfl (lv_at hl 1 rfl) ?_
        refine va_get (D := (dC, dI)) (ci := 3) (v := .int (s_wn - (1 : Int32))) (C := R_M) (T := T_M) (N := 8) hx hb hts in_M hown hK.1 hP 4 rfl rfl 5 (by decide) (hts _ bw_66) (fun _ h9 => h9) rfl d_M_spread_42 ?_
        obtain ⟨hi17, hf⟩ := o_i hf
        refine va_iald (cA := cI) (n := 54) (f := s_wa) hx hb hK.1 hP 8 0 rfl rfl hi17 d_M_spread_45 ?_
        refine lv_bipush (v := (31 : Int32)) hx hb d_M_spread_46 rfl ?_
        refine lv_iand hx hb d_M_spread_48 ?_
        refine lv_istore (lv' := [(4, .int ((s_wa (s_wn - (1 : Int32)).toNatClampNeg) &&& (31 : Int32))), (3, .int ((s_wa (s_wn - (1 : Int32)).toNatClampNeg) >>> ((5 : Int32) &&& 31))), (0, .ref gM), (1, .ref gP), (2, .int x2)]) hx hb d_M_spread_49 hl (by decide) rfl (fun ls hl => ?_)
        refine lv_aload_n hx hb d_M_spread_51 rfl (lv_at hl 2 rfl) ?_
        refine lv_iload_n hx hb d_M_spread_52 rfl (lv_at hl 1 rfl) ?_
        refine lv_iload hx hb d_M_spread_53 (lv_at hl 0 rfl) ?_
        obtain ⟨r18, hv20, hf⟩ := o_b hf
        refine rc_i (va_runV (As := [.int ((s_wa (s_wn - (1 : Int32)).toNatClampNeg) >>> ((5 : Int32) &&& 31)), .int ((s_wa (s_wn - (1 : Int32)).toNatClampNeg) &&& (31 : Int32))]) (rest := []) ⟨hx, hb, hml, hown, hts⟩ (c_M_isLinked l dC dI cI cZ gM aKe aFs aLi aWa aRi s_mn s_li (s_wn - (1 : Int32)) s_rn ((s_wa (s_wn - (1 : Int32)).toNatClampNeg) >>> ((5 : Int32) &&& 31)) ((s_wa (s_wn - (1 : Int32)).toNatClampNeg) &&& (31 : Int32)) r18 hv20) (cwV 2 hts (gd_V bw_235 bw_237 bp_7 bw_4 bw_238) rfl rfl rfl ⟨rfl, hd_M_isLinked⟩ ⟨Nat.le_of_ble_eq_true rfl, Nat.le_of_ble_eq_true rfl⟩) (pv_r (wc := [(gM, .inr (3, [.ref aKe, .ref aFs, .int s_mn, .ref aLi, .ref aWa, .int (s_wn - (1 : Int32)), .ref aRi, .int s_rn])), (aLi, .inl (cI, 20, .inl s_li))]) hK hP [4, 7] rfl 0 (ci := 3) rfl rfl) rfl rfl hl.1 rfl (lv_room (Nat.le_of_ble_eq_true rfl)) d_M_spread_55 ⟨Nat.zero_le _, Nat.zero_le _⟩) ?_
        refine lv_if_eq (tgt := 65) hx hb d_M_spread_58 (by decide) (fun hc21 => ?_) (fun hc21 => ?_)
        · have hf := o_t hf hc21
          refine lv_aload_n hx hb d_M_spread_65 rfl (lv_at hl 3 rfl) ?_
          refine lv_iload_n hx hb d_M_spread_66 rfl (lv_at hl 1 rfl) ?_
          refine lv_iload hx hb d_M_spread_67 (lv_at hl 0 rfl) ?_
          obtain ⟨r22, hv24, hf⟩ := o_b hf
          refine rc_i (va_runS (As := [.ref gP, .int ((s_wa (s_wn - (1 : Int32)).toNatClampNeg) >>> ((5 : Int32) &&& 31)), .int ((s_wa (s_wn - (1 : Int32)).toNatClampNeg) &&& (31 : Int32))]) (rest := []) ⟨hx, hb, hml, hown, hts⟩ (c_M_apexOver l dC dI cI cZ gP aXs aYs aTk aOr s_xs s_ys s_or s_pn ((s_wa (s_wn - (1 : Int32)).toNatClampNeg) >>> ((5 : Int32) &&& 31)) ((s_wa (s_wn - (1 : Int32)).toNatClampNeg) &&& (31 : Int32)) r22 hv24) (va_cwS 3 hts (gd_S bw_239 bw_240 bw_4 bw_241) rfl rfl rfl hd_M_apexOver ⟨Nat.le_of_ble_eq_true rfl, Nat.le_of_ble_eq_true rfl⟩) (ps_r (wc := [(gP, .inr (1, [.ref aXs, .ref aYs, .ref aTk, .ref aOr, .int s_pn])), (aXs, .inl (cI, 20, .inl s_xs)), (aYs, .inl (cI, 20, .inl s_ys)), (aOr, .inl (cI, 20, .inl s_or))]) hK hP [0, 1, 2, 3] rfl) rfl rfl hl.1 rfl (lv_room (Nat.le_of_ble_eq_true rfl)) d_M_spread_69 ⟨Nat.zero_le _, Nat.zero_le _⟩) ?_
          exact t_M_spread_b72 C0 hK hA (k2 := (fun s_ke s_fs s_mn s_li s_wa s_wn s_ri s_rn x2 => f_M_spread_L2 s_xs s_ys s_or s_pn n s_ke s_fs s_mn s_li s_wa s_wn s_ri s_rn x2)) ih s_ke s_fs s_mn s_li s_wa (s_wn - (1 : Int32)) s_ri s_rn x2 ((s_wa (s_wn - (1 : Int32)).toNatClampNeg) >>> ((5 : Int32) &&& 31)) ((s_wa (s_wn - (1 : Int32)).toNatClampNeg) &&& (31 : Int32)) r22 hf _ _ hP hD hS ls (lv_sub hl [2, 3, 4, 1, 0] rfl)
        · have hf := o_f hf hc21
          refine lv_iconst (v := (-1 : Int32)) hx hb d_M_spread_61 rfl ?_
          refine lv_goto (tgt := 72) hx hb d_M_spread_62 (by decide) ?_
          exact t_M_spread_b72 C0 hK hA (k2 := (fun s_ke s_fs s_mn s_li s_wa s_wn s_ri s_rn x2 => f_M_spread_L2 s_xs s_ys s_or s_pn n s_ke s_fs s_mn s_li s_wa s_wn s_ri s_rn x2)) ih s_ke s_fs s_mn s_li s_wa (s_wn - (1 : Int32)) s_ri s_rn x2 ((s_wa (s_wn - (1 : Int32)).toNatClampNeg) >>> ((5 : Int32) &&& 31)) ((s_wa (s_wn - (1 : Int32)).toNatClampNeg) &&& (31 : Int32)) (-1 : Int32) hf _ _ hP hD hS ls (lv_sub hl [2, 3, 4, 1, 0] rfl)
set_option maxHeartbeats 4000000 in
set_option maxRecDepth 100000 in
theorem t_M_spread_e {p : Program} {l : Launch} {e : Env} {s : State} {m : MethodId} {args : Array Value} {below : List Frame} {meth : Method} {c : Code} {dC : Nat → ClassId} {dI : Nat → Nat → Nat} {cI cZ : ClassId} {gP aXs aYs aTk aOr gM aKe aFs aLi aWa aRi : Nat} {s_xs : Nat → Int32} {s_ys : Nat → Int32} {s_or : Nat → Int32} {s_pn : Int32} {s_ke' : Nat → Int32} {s_fs' : Nat → Int32} {s_mn' : Int32} {s_li' : Nat → Int32} {s_wa' : Nat → Int32} {s_wn' : Int32} {s_ri' : Nat → Int32} {s_rn' : Int32} {A : Nat → Prop} (C0 : cx p s m args meth c b_M_spread none 6 R_M) (hK : gK dC dI cI cZ s) (hA : ∀ q, s.heap.size ≤ q → A q) : ∀ (s_ke : Nat → Int32) (s_fs : Nat → Int32) (s_mn : Int32) (s_li : Nat → Int32) (s_wa : Nat → Int32) (s_wn : Int32) (s_ri : Nat → Int32) (s_rn : Int32), f_M_spread s_xs s_ys s_or s_pn s_ke s_fs s_mn s_li s_wa s_wn s_ri s_rn = some (s_ke', s_fs', s_mn', s_li', s_wa', s_wn', s_ri', s_rn') → ∀ (H : Heap) (locs : List Loc), va_P (dC, dI) vwCl [(gP, .inr (1, [.ref aXs, .ref aYs, .ref aTk, .ref aOr, .int s_pn])), (aXs, .inl (cI, 20, .inl s_xs)), (aYs, .inl (cI, 20, .inl s_ys)), (aOr, .inl (cI, 20, .inl s_or)), (gM, .inr (3, [.ref aKe, .ref aFs, .int s_mn, .ref aLi, .ref aWa, .int s_wn, .ref aRi, .int s_rn])), (aKe, .inl (cI, 35, .inl s_ke)), (aFs, .inl (cI, 35, .inl s_fs)), (aLi, .inl (cI, 20, .inl s_li)), (aWa, .inl (cI, 54, .inl s_wa)), (aRi, .inl (cI, 20, .inl s_ri))] H → va_D A [(gP, .inr (1, [.ref aXs, .ref aYs, .ref aTk, .ref aOr, .int s_pn])), (aXs, .inl (cI, 20, .inl s_xs)), (aYs, .inl (cI, 20, .inl s_ys)), (aOr, .inl (cI, 20, .inl s_or)), (gM, .inr (3, [.ref aKe, .ref aFs, .int s_mn, .ref aLi, .ref aWa, .int s_wn, .ref aRi, .int s_rn])), (aKe, .inl (cI, 35, .inl s_ke)), (aFs, .inl (cI, 35, .inl s_fs)), (aLi, .inl (cI, 20, .inl s_li)), (aWa, .inl (cI, 54, .inl s_wa)), (aRi, .inl (cI, 20, .inl s_ri))] → va_S A s.heap H locs → ∀ (ls : Array Slot), lv_has ls 6 [(0, .ref gM), (1, .ref gP)] → W p l e (headSpec w_M_spread ({ frames := 4, cells := 0, slots := 0, locals := 120 } : Room)).room s m args below meth c H locs 0 0 (MQ below (QwV dC dI A [(gP, .inr (1, [.ref aXs, .ref aYs, .ref aTk, .ref aOr, .int s_pn])), (aXs, .inl (cI, 20, .inl s_xs)), (aYs, .inl (cI, 20, .inl s_ys)), (aOr, .inl (cI, 20, .inl s_or)), (gM, .inr (3, [.ref aKe, .ref aFs, .int s_mn', .ref aLi, .ref aWa, .int s_wn', .ref aRi, .int s_rn'])), (aKe, .inl (cI, 35, .inl s_ke')), (aFs, .inl (cI, 35, .inl s_fs')), (aLi, .inl (cI, 20, .inl s_li')), (aWa, .inl (cI, 54, .inl s_wa')), (aRi, .inl (cI, 20, .inl s_ri'))]) args s 0 0 A) (F0 m 0 ls []) := by
  obtain ⟨hx, hb, hr, hml, hts, hown, hlocks⟩ := id C0
  intro s_ke s_fs s_mn s_li s_wa s_wn s_ri s_rn hf H locs hP hD hS ls hl
  refine lv_iconst (v := (0 : Int32)) hx hb d_M_spread_0 rfl ?_
  refine lv_istore_n (lv' := [(2, .int (0 : Int32)), (0, .ref gM), (1, .ref gP)]) hx hb d_M_spread_1 rfl hl (by decide) rfl (fun ls hl => ?_)
  exact t_M_spread_L2 C0 hK hA  600 s_ke s_fs s_mn s_li s_wa s_wn s_ri s_rn (0 : Int32) hf _ _ hP hD hS ls (lv_sub hl [1, 2, 0] rfl)
set_option maxHeartbeats 4000000 in
set_option maxRecDepth 100000 in
theorem c_M_spread (l : Launch) (dC : Nat → ClassId) (dI : Nat → Nat → Nat) (cI cZ : ClassId) (gP aXs aYs aTk aOr gM aKe aFs aLi aWa aRi : Nat) (s_xs : Nat → Int32) (s_ys : Nat → Int32) (s_or : Nat → Int32) (s_pn : Int32) (s_ke : Nat → Int32) (s_fs : Nat → Int32) (s_mn : Int32) (s_li : Nat → Int32) (s_wa : Nat → Int32) (s_wn : Int32) (s_ri : Nat → Int32) (s_rn : Int32) (s_ke' : Nat → Int32) (s_fs' : Nat → Int32) (s_mn' : Int32) (s_li' : Nat → Int32) (s_wa' : Nat → Int32) (s_wn' : Int32) (s_ri' : Nat → Int32) (s_rn' : Int32) (sz : Nat) (hf : f_M_spread s_xs s_ys s_or s_pn s_ke s_fs s_mn s_li s_wa s_wn s_ri s_rn = some (s_ke', s_fs', s_mn', s_li', s_wa', s_wn', s_ri', s_rn')) : Met l y_M_spread w_M_spread ({ frames := 4, cells := 0, slots := 0, locals := 120 } : Room) (PcW dC dI cI cZ [.ref gM, .ref gP] [(gP, .inr (1, [.ref aXs, .ref aYs, .ref aTk, .ref aOr, .int s_pn])), (aXs, .inl (cI, 20, .inl s_xs)), (aYs, .inl (cI, 20, .inl s_ys)), (aOr, .inl (cI, 20, .inl s_or)), (gM, .inr (3, [.ref aKe, .ref aFs, .int s_mn, .ref aLi, .ref aWa, .int s_wn, .ref aRi, .int s_rn])), (aKe, .inl (cI, 35, .inl s_ke)), (aFs, .inl (cI, 35, .inl s_fs)), (aLi, .inl (cI, 20, .inl s_li)), (aWa, .inl (cI, 54, .inl s_wa)), (aRi, .inl (cI, 20, .inl s_ri))] sz) (QwV dC dI (va_A [(gP, .inr (1, [.ref aXs, .ref aYs, .ref aTk, .ref aOr, .int s_pn])), (aXs, .inl (cI, 20, .inl s_xs)), (aYs, .inl (cI, 20, .inl s_ys)), (aOr, .inl (cI, 20, .inl s_or)), (gM, .inr (3, [.ref aKe, .ref aFs, .int s_mn, .ref aLi, .ref aWa, .int s_wn, .ref aRi, .int s_rn])), (aKe, .inl (cI, 35, .inl s_ke)), (aFs, .inl (cI, 35, .inl s_fs)), (aLi, .inl (cI, 20, .inl s_li)), (aWa, .inl (cI, 54, .inl s_wa)), (aRi, .inl (cI, 20, .inl s_ri))] sz) [(gP, .inr (1, [.ref aXs, .ref aYs, .ref aTk, .ref aOr, .int s_pn])), (aXs, .inl (cI, 20, .inl s_xs)), (aYs, .inl (cI, 20, .inl s_ys)), (aOr, .inl (cI, 20, .inl s_or)), (gM, .inr (3, [.ref aKe, .ref aFs, .int s_mn', .ref aLi, .ref aWa, .int s_wn', .ref aRi, .int s_rn'])), (aKe, .inl (cI, 35, .inl s_ke')), (aFs, .inl (cI, 35, .inl s_fs')), (aLi, .inl (cI, 20, .inl s_li')), (aWa, .inl (cI, 54, .inl s_wa')), (aRi, .inl (cI, 20, .inl s_ri'))]) 0 0 (va_A [(gP, .inr (1, [.ref aXs, .ref aYs, .ref aTk, .ref aOr, .int s_pn])), (aXs, .inl (cI, 20, .inl s_xs)), (aYs, .inl (cI, 20, .inl s_ys)), (aOr, .inl (cI, 20, .inl s_or)), (gM, .inr (3, [.ref aKe, .ref aFs, .int s_mn, .ref aLi, .ref aWa, .int s_wn, .ref aRi, .int s_rn])), (aKe, .inl (cI, 35, .inl s_ke)), (aFs, .inl (cI, 35, .inl s_fs)), (aLi, .inl (cI, 20, .inl s_li)), (aWa, .inl (cI, 54, .inl s_wa)), (aRi, .inl (cI, 20, .inl s_ri))] sz) := by
  refine Met.ofW (cc := b_M_spread) (maxL := 6) (ret := none) (by decide) rfl ?_
  intro p e s m args below meth c s₁ B hml hv
  obtain ⟨rfl, hsz, hP, hK, hD0⟩ := hv
  have C0 : cx p s m _ meth c b_M_spread none 6 R_M := ⟨B.exec, B.bytes, B.returns, hml, fun w hw => atoms_spec (ws := w_M_spread) B.pre w (List.mem_cons_of_mem _ hw), findClass_of_methodNamed B.named, B.notSynchronized⟩
  subst hsz
  have hD := hD0.self (sz := s.heap.size)
  generalize hAe : va_A [(gP, .inr (1, [.ref aXs, .ref aYs, .ref aTk, .ref aOr, .int s_pn])), (aXs, .inl (cI, 20, .inl s_xs)), (aYs, .inl (cI, 20, .inl s_ys)), (aOr, .inl (cI, 20, .inl s_or)), (gM, .inr (3, [.ref aKe, .ref aFs, .int s_mn, .ref aLi, .ref aWa, .int s_wn, .ref aRi, .int s_rn])), (aKe, .inl (cI, 35, .inl s_ke)), (aFs, .inl (cI, 35, .inl s_fs)), (aLi, .inl (cI, 20, .inl s_li)), (aWa, .inl (cI, 54, .inl s_wa)), (aRi, .inl (cI, 20, .inl s_ri))] s.heap.size = A at hD ⊢
  have hA : ∀ q : Nat, s.heap.size ≤ q → A q := fun q h => by rw [← hAe]; exact Or.inr h
  have hl := lv_entry ([.ref gM, .ref gP]) (n := 6) (Nat.le_of_ble_eq_true rfl)
  rw [lg_entry_eq]
  generalize (lg_sl ([.ref gM, .ref gP]) ++ List.replicate (6 - (lg_sl ([.ref gM, .ref gP])).length) Slot.unset).toArray = ls at hl ⊢
  have hl : lv_has ls 6 [(0, .ref gM), (1, .ref gP)] := hl
  exact t_M_spread_e C0 hK hA s_ke s_fs s_mn s_li s_wa s_wn s_ri s_rn hf _ _ hP hD va_S.rf ls hl
set_option maxHeartbeats 4000000 in
set_option maxRecDepth 100000 in
theorem c_M_size (l : Launch) (dC : Nat → ClassId) (dI : Nat → Nat → Nat) (cI cZ : ClassId) (gM aKe aFs aLi aWa aRi : Nat) (s_mn : Int32) (s_wn : Int32) (s_rn : Int32) (rv : Int32) (hf : f_M_size s_mn = some rv) : Met l y_M_size w_M_size ({ frames := 0, cells := 0, slots := 0, locals := 0 } : Room) (PcR dC dI cI cZ [.ref gM] [(gM, .inr (3, [.ref aKe, .ref aFs, .int s_mn, .ref aLi, .ref aWa, .int s_wn, .ref aRi, .int s_rn]))]) (vp_Si (fun r => r = rv)) 0 0 (fun _ => False) := by
  refine Met.ofW (cc := b_M_size) (maxL := 1) (ret := (some .int)) (by decide) rfl ?_
  intro p e s m args below meth c s₁ B hml hv
  obtain ⟨rfl, hP, hK⟩ := hv
  have C0 : cx p s m _ meth c b_M_size (some .int) 1 R_M := ⟨B.exec, B.bytes, B.returns, hml, fun w hw => atoms_spec (ws := w_M_size) B.pre w (List.mem_cons_of_mem _ hw), findClass_of_methodNamed B.named, B.notSynchronized⟩
  obtain ⟨hx, hb, hr, hml, hts, hown, hlocks⟩ := id C0
  have hl := lv_entry ([.ref gM]) (n := 1) (Nat.le_of_ble_eq_true rfl)
  rw [lg_entry_eq]
  generalize (lg_sl ([.ref gM]) ++ List.replicate (1 - (lg_sl ([.ref gM])).length) Slot.unset).toArray = ls at hl ⊢
  have hl : lv_has ls 1 [(0, .ref gM)] := hl
  refine lv_aload_n hx hb d_M_size_0 rfl (lv_at hl 0 rfl) ?_
  refine va_get (D := (dC, dI)) (ci := 3) (v := .int s_mn) (C := R_M) (T := T_M) (N := 8) hx hb hts in_M hown hK.1 hP 0 rfl rfl 2 (by decide) (hts _ bw_63) (fun _ h9 => h9) rfl d_M_size_1 ?_
  cases hf
  exact rr_i hx hb hr hlocks d_M_size_4
set_option maxHeartbeats 4000000 in
set_option maxRecDepth 100000 in
theorem c_M_has (l : Launch) (dC : Nat → ClassId) (dI : Nat → Nat → Nat) (cI cZ : ClassId) (gM aKe aFs aLi aWa aRi : Nat) (s_mn : Int32) (s_wn : Int32) (s_rn : Int32) (x1 : Int32) (rv : Int32) (hf : f_M_has s_mn x1 = some rv) : Met l y_M_has w_M_has ({ frames := 0, cells := 0, slots := 0, locals := 0 } : Room) (PcR dC dI cI cZ [.ref gM, .int x1] [(gM, .inr (3, [.ref aKe, .ref aFs, .int s_mn, .ref aLi, .ref aWa, .int s_wn, .ref aRi, .int s_rn]))]) (vp_Si (fun r => r = rv)) 0 0 (fun _ => False) := by
  refine Met.ofW (cc := b_M_has) (maxL := 2) (ret := (some .boolean)) (by decide) rfl ?_
  intro p e s m args below meth c s₁ B hml hv
  obtain ⟨rfl, hP, hK⟩ := hv
  have C0 : cx p s m _ meth c b_M_has (some .boolean) 2 R_M := ⟨B.exec, B.bytes, B.returns, hml, fun w hw => atoms_spec (ws := w_M_has) B.pre w (List.mem_cons_of_mem _ hw), findClass_of_methodNamed B.named, B.notSynchronized⟩
  obtain ⟨hx, hb, hr, hml, hts, hown, hlocks⟩ := id C0
  have hl := lv_entry ([.ref gM, .int x1]) (n := 2) (Nat.le_of_ble_eq_true rfl)
  rw [lg_entry_eq]
  generalize (lg_sl ([.ref gM, .int x1]) ++ List.replicate (2 - (lg_sl ([.ref gM, .int x1])).length) Slot.unset).toArray = ls at hl ⊢
  have hl : lv_has ls 2 [(0, .ref gM), (1, .int x1)] := hl
  refine lv_iload_n hx hb d_M_has_0 rfl (lv_at hl 1 rfl) ?_
  refine lv_if_lt (tgt := 16) hx hb d_M_has_1 (by decide) (fun hc1 => ?_) (fun hc1 => ?_)
  · have hf := o_t hf hc1
    refine lv_iconst (v := (0 : Int32)) hx hb d_M_has_16 rfl ?_
    cases hf
    exact rr_z hx hb hr hlocks rfl d_M_has_17
  · have hf := o_f hf hc1
    refine lv_iload_n hx hb d_M_has_4 rfl (lv_at hl 1 rfl) ?_
    refine lv_aload_n hx hb d_M_has_5 rfl (lv_at hl 0 rfl) ?_
    refine va_get (D := (dC, dI)) (ci := 3) (v := .int s_mn) (C := R_M) (T := T_M) (N := 8) hx hb hts in_M hown hK.1 hP 0 rfl rfl 2 (by decide) (hts _ bw_63) (fun _ h9 => h9) rfl d_M_has_6 ?_
    refine lv_icmp_ge (tgt := 16) hx hb d_M_has_9 (by decide) (fun hc2 => ?_) (fun hc2 => ?_)
    · have hf := o_t hf hc2
      refine lv_iconst (v := (0 : Int32)) hx hb d_M_has_16 rfl ?_
      cases hf
      exact rr_z hx hb hr hlocks rfl d_M_has_17
    · have hf := o_f hf hc2
      refine lv_iconst (v := (1 : Int32)) hx hb d_M_has_12 rfl ?_
      refine lv_goto (tgt := 17) hx hb d_M_has_13 (by decide) ?_
      cases hf
      exact rr_z hx hb hr hlocks rfl d_M_has_17
set_option maxHeartbeats 4000000 in
set_option maxRecDepth 100000 in
theorem c_M_corner (l : Launch) (dC : Nat → ClassId) (dI : Nat → Nat → Nat) (cI cZ : ClassId) (gM aKe aFs aLi aWa aRi : Nat) (s_ke : Nat → Int32) (s_mn : Int32) (s_wn : Int32) (s_rn : Int32) (x1 : Int32) (x2 : Int32) (rv : Int32) (hf : f_M_corner s_ke x1 x2 = some rv) : Met l y_M_corner w_M_corner ({ frames := 0, cells := 0, slots := 0, locals := 0 } : Room) (PcR dC dI cI cZ [.ref gM, .int x1, .int x2] [(gM, .inr (3, [.ref aKe, .ref aFs, .int s_mn, .ref aLi, .ref aWa, .int s_wn, .ref aRi, .int s_rn])), (aKe, .inl (cI, 35, .inl s_ke))]) (vp_Si (fun r => r = rv)) 0 0 (fun _ => False) := by
  refine Met.ofW (cc := b_M_corner) (maxL := 3) (ret := (some .int)) (by decide) rfl ?_
  intro p e s m args below meth c s₁ B hml hv
  obtain ⟨rfl, hP, hK⟩ := hv
  have C0 : cx p s m _ meth c b_M_corner (some .int) 3 R_M := ⟨B.exec, B.bytes, B.returns, hml, fun w hw => atoms_spec (ws := w_M_corner) B.pre w (List.mem_cons_of_mem _ hw), findClass_of_methodNamed B.named, B.notSynchronized⟩
  obtain ⟨hx, hb, hr, hml, hts, hown, hlocks⟩ := id C0
  have hl := lv_entry ([.ref gM, .int x1, .int x2]) (n := 3) (Nat.le_of_ble_eq_true rfl)
  rw [lg_entry_eq]
  generalize (lg_sl ([.ref gM, .int x1, .int x2]) ++ List.replicate (3 - (lg_sl ([.ref gM, .int x1, .int x2])).length) Slot.unset).toArray = ls at hl ⊢
  have hl : lv_has ls 3 [(0, .ref gM), (1, .int x1), (2, .int x2)] := hl
  refine lv_aload_n hx hb d_M_corner_0 rfl (lv_at hl 0 rfl) ?_
  refine va_get (D := (dC, dI)) (ci := 3) (v := .ref aKe) (C := R_M) (T := T_M) (N := 8) hx hb hts in_M hown hK.1 hP 0 rfl rfl 0 (by decide) (hts _ bw_61) (fun _ h9 => h9) rfl d_M_corner_1 ?_
  refine lv_iload_n hx hb d_M_corner_4 rfl (lv_at hl 1 rfl) ?_
  obtain ⟨hi1, hf⟩ := o_i hf
  refine va_iald (cA := cI) (n := 35) (f := s_ke) hx hb hK.1 hP 1 0 rfl rfl hi1 d_M_corner_5 ?_
  refine lv_iconst (v := (2 : Int32)) hx hb d_M_corner_6 rfl ?_
  refine lv_iload_n hx hb d_M_corner_7 rfl (lv_at hl 2 rfl) ?_
  refine lv_isub hx hb d_M_corner_8 ?_
  refine lv_iconst (v := (5 : Int32)) hx hb d_M_corner_9 rfl ?_
  refine lv_imul hx hb d_M_corner_10 ?_
  refine lv_ishr hx hb d_M_corner_11 ?_
  refine lv_bipush (v := (31 : Int32)) hx hb d_M_corner_12 rfl ?_
  refine lv_iand hx hb d_M_corner_14 ?_
  cases hf
  exact rr_i hx hb hr hlocks d_M_corner_15
set_option maxHeartbeats 4000000 in
set_option maxRecDepth 100000 in
theorem c_M_cornerSet (l : Launch) (dC : Nat → ClassId) (dI : Nat → Nat → Nat) (cI cZ : ClassId) (gM aKe aFs aLi aWa aRi : Nat) (s_ke : Nat → Int32) (s_mn : Int32) (s_wn : Int32) (s_rn : Int32) (x1 : Int32) (rv : Int32) (hf : f_M_cornerSet s_ke x1 = some rv) : Met l y_M_cornerSet w_M_cornerSet ({ frames := 1, cells := 0, slots := 0, locals := 22 } : Room) (PcR dC dI cI cZ [.ref gM, .int x1] [(gM, .inr (3, [.ref aKe, .ref aFs, .int s_mn, .ref aLi, .ref aWa, .int s_wn, .ref aRi, .int s_rn])), (aKe, .inl (cI, 35, .inl s_ke))]) (vp_Si (fun r => r = rv)) 0 0 (fun _ => False) := by
  refine Met.ofW (cc := b_M_cornerSet) (maxL := 2) (ret := (some .int)) (by decide) rfl ?_
  intro p e s m args below meth c s₁ B hml hv
  obtain ⟨rfl, hP, hK⟩ := hv
  have C0 : cx p s m _ meth c b_M_cornerSet (some .int) 2 R_M := ⟨B.exec, B.bytes, B.returns, hml, fun w hw => atoms_spec (ws := w_M_cornerSet) B.pre w (List.mem_cons_of_mem _ hw), findClass_of_methodNamed B.named, B.notSynchronized⟩
  obtain ⟨hx, hb, hr, hml, hts, hown, hlocks⟩ := id C0
  have hl := lv_entry ([.ref gM, .int x1]) (n := 2) (Nat.le_of_ble_eq_true rfl)
  rw [lg_entry_eq]
  generalize (lg_sl ([.ref gM, .int x1]) ++ List.replicate (2 - (lg_sl ([.ref gM, .int x1])).length) Slot.unset).toArray = ls at hl ⊢
  have hl : lv_has ls 2 [(0, .ref gM), (1, .int x1)] := hl
  refine lv_iconst (v := (1 : Int32)) hx hb d_M_cornerSet_0 rfl ?_
  refine lv_aload_n hx hb d_M_cornerSet_1 rfl (lv_at hl 0 rfl) ?_
  refine lv_iload_n hx hb d_M_cornerSet_2 rfl (lv_at hl 1 rfl) ?_
  refine lv_iconst (v := (0 : Int32)) hx hb d_M_cornerSet_3 rfl ?_
  obtain ⟨r1, hv3, hf⟩ := o_b hf
  refine rc_i (va_runV (As := [.int x1, .int (0 : Int32)]) (rest := [.int (1 : Int32)]) ⟨hx, hb, hml, hown, hts⟩ (c_M_corner l dC dI cI cZ gM aKe aFs aLi aWa aRi s_ke s_mn s_wn s_rn x1 (0 : Int32) r1 hv3) (cwV 2 hts (gd_V bw_293 bw_282 bw_283 bw_4 bw_284) rfl rfl rfl ⟨rfl, hd_M_corner⟩ ⟨Nat.le_of_ble_eq_true rfl, Nat.le_of_ble_eq_true rfl⟩) (pv_r (wc := [(gM, .inr (3, [.ref aKe, .ref aFs, .int s_mn, .ref aLi, .ref aWa, .int s_wn, .ref aRi, .int s_rn])), (aKe, .inl (cI, 35, .inl s_ke))]) hK hP [0, 1] rfl 0 (ci := 3) rfl rfl) rfl rfl hl.1 rfl (lv_room (Nat.le_of_ble_eq_true rfl)) d_M_cornerSet_4 ⟨Nat.zero_le _, Nat.zero_le _⟩) ?_
  refine lv_ishl hx hb d_M_cornerSet_7 ?_
  refine lv_iconst (v := (1 : Int32)) hx hb d_M_cornerSet_8 rfl ?_
  refine lv_aload_n hx hb d_M_cornerSet_9 rfl (lv_at hl 0 rfl) ?_
  refine lv_iload_n hx hb d_M_cornerSet_10 rfl (lv_at hl 1 rfl) ?_
  refine lv_iconst (v := (1 : Int32)) hx hb d_M_cornerSet_11 rfl ?_
  obtain ⟨r4, hv6, hf⟩ := o_b hf
  refine rc_i (va_runV (As := [.int x1, .int (1 : Int32)]) (rest := [.int (1 : Int32), .int ((1 : Int32) <<< (r1 &&& 31))]) ⟨hx, hb, hml, hown, hts⟩ (c_M_corner l dC dI cI cZ gM aKe aFs aLi aWa aRi s_ke s_mn s_wn s_rn x1 (1 : Int32) r4 hv6) (cwV 2 hts (gd_V bw_293 bw_282 bw_283 bw_4 bw_284) rfl rfl rfl ⟨rfl, hd_M_corner⟩ ⟨Nat.le_of_ble_eq_true rfl, Nat.le_of_ble_eq_true rfl⟩) (pv_r (wc := [(gM, .inr (3, [.ref aKe, .ref aFs, .int s_mn, .ref aLi, .ref aWa, .int s_wn, .ref aRi, .int s_rn])), (aKe, .inl (cI, 35, .inl s_ke))]) hK hP [0, 1] rfl 0 (ci := 3) rfl rfl) rfl rfl hl.1 rfl (lv_room (Nat.le_of_ble_eq_true rfl)) d_M_cornerSet_12 ⟨Nat.zero_le _, Nat.zero_le _⟩) ?_
  refine lv_ishl hx hb d_M_cornerSet_15 ?_
  refine lv_ior hx hb d_M_cornerSet_16 ?_
  refine lv_iconst (v := (1 : Int32)) hx hb d_M_cornerSet_17 rfl ?_
  refine lv_aload_n hx hb d_M_cornerSet_18 rfl (lv_at hl 0 rfl) ?_
  refine lv_iload_n hx hb d_M_cornerSet_19 rfl (lv_at hl 1 rfl) ?_
  refine lv_iconst (v := (2 : Int32)) hx hb d_M_cornerSet_20 rfl ?_
  obtain ⟨r7, hv9, hf⟩ := o_b hf
  refine rc_i (va_runV (As := [.int x1, .int (2 : Int32)]) (rest := [.int (1 : Int32), .int (((1 : Int32) <<< (r1 &&& 31)) ||| ((1 : Int32) <<< (r4 &&& 31)))]) ⟨hx, hb, hml, hown, hts⟩ (c_M_corner l dC dI cI cZ gM aKe aFs aLi aWa aRi s_ke s_mn s_wn s_rn x1 (2 : Int32) r7 hv9) (cwV 2 hts (gd_V bw_293 bw_282 bw_283 bw_4 bw_284) rfl rfl rfl ⟨rfl, hd_M_corner⟩ ⟨Nat.le_of_ble_eq_true rfl, Nat.le_of_ble_eq_true rfl⟩) (pv_r (wc := [(gM, .inr (3, [.ref aKe, .ref aFs, .int s_mn, .ref aLi, .ref aWa, .int s_wn, .ref aRi, .int s_rn])), (aKe, .inl (cI, 35, .inl s_ke))]) hK hP [0, 1] rfl 0 (ci := 3) rfl rfl) rfl rfl hl.1 rfl (lv_room (Nat.le_of_ble_eq_true rfl)) d_M_cornerSet_21 ⟨Nat.zero_le _, Nat.zero_le _⟩) ?_
  refine lv_ishl hx hb d_M_cornerSet_24 ?_
  refine lv_ior hx hb d_M_cornerSet_25 ?_
  cases hf
  exact rr_i hx hb hr hlocks d_M_cornerSet_26
set_option maxHeartbeats 4000000 in
set_option maxRecDepth 100000 in
theorem c_M_faceSize (l : Launch) (dC : Nat → ClassId) (dI : Nat → Nat → Nat) (cI cZ : ClassId) (gM aKe aFs aLi aWa aRi : Nat) (s_fs : Nat → Int32) (s_mn : Int32) (s_wn : Int32) (s_rn : Int32) (x1 : Int32) (rv : Int32) (hf : f_M_faceSize s_fs x1 = some rv) : Met l y_M_faceSize w_M_faceSize ({ frames := 0, cells := 0, slots := 0, locals := 0 } : Room) (PcR dC dI cI cZ [.ref gM, .int x1] [(gM, .inr (3, [.ref aKe, .ref aFs, .int s_mn, .ref aLi, .ref aWa, .int s_wn, .ref aRi, .int s_rn])), (aFs, .inl (cI, 35, .inl s_fs))]) (vp_Si (fun r => r = rv)) 0 0 (fun _ => False) := by
  refine Met.ofW (cc := b_M_faceSize) (maxL := 2) (ret := (some .int)) (by decide) rfl ?_
  intro p e s m args below meth c s₁ B hml hv
  obtain ⟨rfl, hP, hK⟩ := hv
  have C0 : cx p s m _ meth c b_M_faceSize (some .int) 2 R_M := ⟨B.exec, B.bytes, B.returns, hml, fun w hw => atoms_spec (ws := w_M_faceSize) B.pre w (List.mem_cons_of_mem _ hw), findClass_of_methodNamed B.named, B.notSynchronized⟩
  obtain ⟨hx, hb, hr, hml, hts, hown, hlocks⟩ := id C0
  have hl := lv_entry ([.ref gM, .int x1]) (n := 2) (Nat.le_of_ble_eq_true rfl)
  rw [lg_entry_eq]
  generalize (lg_sl ([.ref gM, .int x1]) ++ List.replicate (2 - (lg_sl ([.ref gM, .int x1])).length) Slot.unset).toArray = ls at hl ⊢
  have hl : lv_has ls 2 [(0, .ref gM), (1, .int x1)] := hl
  refine lv_aload_n hx hb d_M_faceSize_0 rfl (lv_at hl 0 rfl) ?_
  refine va_get (D := (dC, dI)) (ci := 3) (v := .ref aFs) (C := R_M) (T := T_M) (N := 8) hx hb hts in_M hown hK.1 hP 0 rfl rfl 1 (by decide) (hts _ bw_62) (fun _ h9 => h9) rfl d_M_faceSize_1 ?_
  refine lv_iload_n hx hb d_M_faceSize_4 rfl (lv_at hl 1 rfl) ?_
  obtain ⟨hi1, hf⟩ := o_i hf
  refine va_iald (cA := cI) (n := 35) (f := s_fs) hx hb hK.1 hP 1 0 rfl rfl hi1 d_M_faceSize_5 ?_
  cases hf
  exact rr_i hx hb hr hlocks d_M_faceSize_6
set_option maxHeartbeats 4000000 in
set_option maxRecDepth 100000 in
theorem c_M_linkedTo (l : Launch) (dC : Nat → ClassId) (dI : Nat → Nat → Nat) (cI cZ : ClassId) (gM aKe aFs aLi aWa aRi : Nat) (s_mn : Int32) (s_li : Nat → Int32) (s_wn : Int32) (s_rn : Int32) (x1 : Int32) (rv : Int32) (hf : f_M_linkedTo s_li x1 = some rv) : Met l y_M_linkedTo w_M_linkedTo ({ frames := 0, cells := 0, slots := 0, locals := 0 } : Room) (PcR dC dI cI cZ [.ref gM, .int x1] [(gM, .inr (3, [.ref aKe, .ref aFs, .int s_mn, .ref aLi, .ref aWa, .int s_wn, .ref aRi, .int s_rn])), (aLi, .inl (cI, 20, .inl s_li))]) (vp_Si (fun r => r = rv)) 0 0 (fun _ => False) := by
  refine Met.ofW (cc := b_M_linkedTo) (maxL := 2) (ret := (some .int)) (by decide) rfl ?_
  intro p e s m args below meth c s₁ B hml hv
  obtain ⟨rfl, hP, hK⟩ := hv
  have C0 : cx p s m _ meth c b_M_linkedTo (some .int) 2 R_M := ⟨B.exec, B.bytes, B.returns, hml, fun w hw => atoms_spec (ws := w_M_linkedTo) B.pre w (List.mem_cons_of_mem _ hw), findClass_of_methodNamed B.named, B.notSynchronized⟩
  obtain ⟨hx, hb, hr, hml, hts, hown, hlocks⟩ := id C0
  have hl := lv_entry ([.ref gM, .int x1]) (n := 2) (Nat.le_of_ble_eq_true rfl)
  rw [lg_entry_eq]
  generalize (lg_sl ([.ref gM, .int x1]) ++ List.replicate (2 - (lg_sl ([.ref gM, .int x1])).length) Slot.unset).toArray = ls at hl ⊢
  have hl : lv_has ls 2 [(0, .ref gM), (1, .int x1)] := hl
  refine lv_aload_n hx hb d_M_linkedTo_0 rfl (lv_at hl 0 rfl) ?_
  refine va_get (D := (dC, dI)) (ci := 3) (v := .ref aLi) (C := R_M) (T := T_M) (N := 8) hx hb hts in_M hown hK.1 hP 0 rfl rfl 3 (by decide) (hts _ bw_64) (fun _ h9 => h9) rfl d_M_linkedTo_1 ?_
  refine lv_iload_n hx hb d_M_linkedTo_4 rfl (lv_at hl 1 rfl) ?_
  obtain ⟨hi1, hf⟩ := o_i hf
  refine va_iald (cA := cI) (n := 20) (f := s_li) hx hb hK.1 hP 1 0 rfl rfl hi1 d_M_linkedTo_5 ?_
  cases hf
  exact rr_i hx hb hr hlocks d_M_linkedTo_6
