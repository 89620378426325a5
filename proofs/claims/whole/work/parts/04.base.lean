/-! What every walk here stands on: my own short words over the kit's rows. -/
def cx (p : Program) (s : State) (m : MethodId) (args : Array Value) (meth : Method) (c : Code) (cc : ByteArray) (ret : Option FieldType) (nL : Nat) (own : String) : Prop := p.tables.exec = Jvm.exec ∧ c.code = cc ∧ meth.sig.returnType = ret ∧ c.maxLocals = nL ∧ (∀ w ∈ BIG, w.before args s = true) ∧ s.vm.findClass own = some m.cls ∧ meth.locks = false
abbrev kT (cI cZ : ClassId) : List (ClassId × FieldType) := [(cI, .int), (cZ, .boolean)]
/-- what the walks know of the tables: the classes, the two kinds of rows, the links to nest mates' private members -/
def gK (dC : Nat → ClassId) (dI : Nat → Nat → Nat) (cI cZ : ClassId) (U : State) : Prop := va_K (dC, dI) vwCl (kT cI cZ) U ∧ ∀ w ∈ nws, va_Nw w U
theorem gK.moved {dC : Nat → ClassId} {dI : Nat → Nat → Nat} {cI cZ : ClassId} {s U : State} (hW : s.WarmedH U.vm) (h : gK dC dI cI cZ s) : gK dC dI cI cZ U :=
  ⟨va_K.moved hW.alike h.1, fun w hw => by obtain ⟨a, i, x, hh, rfl⟩ := nws_form w hw; exact va_Nw.warmM hW (h.2 _ hw)⟩
theorem gK.calling {dC : Nat → ClassId} {dI : Nat → Nat → Nat} {cI cZ : ClassId} {U : State} {g : JFrame} {mk : MethodId} {a : Array Value} (h : gK dC dI cI cZ U) : gK dC dI cI cZ (U.calling g mk a) :=
  ⟨va_K.moved (u := U) (U := U.calling g mk a) (Vm.Alike.refl U.vm) h.1, fun w hw => by obtain ⟨b, i, x, hh, rfl⟩ := nws_form w hw; exact va_Nw.same (u := U) rfl rfl (h.2 _ hw)⟩
abbrev PcR (dC : Nat → ClassId) (dI : Nat → Nat → Nat) (cI cZ : ClassId) (av : List Value) (ws : va_W) : Array Value → State → Prop := va_Pc av (fun U => va_P (dC, dI) vwCl ws U.heap ∧ gK dC dI cI cZ U)
abbrev PcW (dC : Nat → ClassId) (dI : Nat → Nat → Nat) (cI cZ : ClassId) (av : List Value) (ws : va_W) (sz : Nat) : Array Value → State → Prop := va_Pc av (fun U => U.heap.size = sz ∧ va_P (dC, dI) vwCl ws U.heap ∧ gK dC dI cI cZ U ∧ va_D (fun _ => True) ws)
abbrev QwI (dC : Nat → ClassId) (dI : Nat → Nat → Nat) (A : Nat → Prop) (w : va_W) (rv : Int32) : Array Value → State → Outcome → State → Prop := va_Qi (S := Unit) (fun r _ => r = rv) (fun _ t => va_P (dC, dI) vwCl w t.heap ∧ va_D A w) A
abbrev QwL (dC : Nat → ClassId) (dI : Nat → Nat → Nat) (A : Nat → Prop) (w : va_W) (rv : Int64) : Array Value → State → Outcome → State → Prop := va_Ql (S := Unit) (fun r _ => r = rv) (fun _ t => va_P (dC, dI) vwCl w t.heap ∧ va_D A w) A
abbrev QwV (dC : Nat → ClassId) (dI : Nat → Nat → Nat) (A : Nat → Prop) (w : va_W) : Array Value → State → Outcome → State → Prop := va_Qv (S := Unit) (fun _ => True) (fun _ t => va_P (dC, dI) vwCl w t.heap ∧ va_D A w) A
/-- a place of a row of n -/
def ix (i : Int32) (n : Nat) : Bool := decide (0 ≤ i.toInt ∧ i.toInt < (n : Int))
abbrev z01 (x : Int32) : Prop := x = 0 ∨ x = 1
theorem ix_in {i : Int32} {n : Nat} (h : ix i n = true) : vp_in i n := vp_in_iff.mpr (of_decide_eq_true h)
theorem z01_n {x : Int32} (h : z01 x) : narrow .boolean (.int x) = .int x := by rcases h with rfl | rfl <;> rfl
theorem z01_f {x : Int32} (h : z01 x) : fits .boolean (.int x) = true := by rcases h with rfl | rfl <;> rfl
theorem o_t {α : Type} {c : Prop} {ic : Decidable c} {a b : Option α} {r : α} (h : (@ite _ c ic a b) = some r) (hc : c) : a = some r := by rw [if_pos hc] at h; exact h
theorem o_f {α : Type} {c : Prop} {ic : Decidable c} {a b : Option α} {r : α} (h : (@ite _ c ic a b) = some r) (hc : ¬ c) : b = some r := by rw [if_neg hc] at h; exact h
theorem o_g {α : Type} {c : Prop} {ic : Decidable c} {a : Option α} {r : α} (h : (@ite _ c ic a none) = some r) : c ∧ a = some r := by
  by_cases hc : c
  · rw [if_pos hc] at h; exact ⟨hc, h⟩
  · rw [if_neg hc] at h; cases h
theorem o_z {α : Type} {c : Prop} {ic : Decidable c} {a : Option α} {r : α} (h : (@ite _ c ic none a) = some r) : ¬ c ∧ a = some r := by
  by_cases hc : c
  · rw [if_pos hc] at h; cases h
  · rw [if_neg hc] at h; exact ⟨hc, h⟩
theorem o_i {α : Type} {i : Int32} {n : Nat} {a : Option α} {r : α} (h : (if ix i n then a else none) = some r) : vp_in i n ∧ a = some r := ⟨ix_in (o_g h).1, (o_g h).2⟩
theorem o_n {α : Type} {r : α} (h : (none : Option α) = some r) : False := by cases h
theorem o_b {α β : Type} {o : Option α} {k : α → Option β} {r : β} (h : o.bind k = some r) : ∃ v, o = some v ∧ k v = some r := by
  cases o with
  | none => cases h
  | some v => exact ⟨v, rfl, h⟩
section Rows
variable {p : Program} {l : Launch} {e : Env} {R : Room} {s : State} {m : MethodId} {args : Array Value} {below : List Frame} {meth : Method} {c : Code} {H H0 : Heap} {locs : List Loc} {cells slots : Nat} {Q : State → Prop} {cc : ByteArray} {pc : Nat} {ls : Array Slot} {dC : Nat → ClassId} {dI : Nat → Nat → Nat} {cI cZ : ClassId} {A A0 : Nat → Prop}
theorem rr_i {v : Int32} (hx : p.tables.exec = Jvm.exec) (hb : c.code = cc) (hr : meth.sig.returnType = some .int) (hlocks : meth.locks = false) (hdg : decode cc pc = .ok (.ireturn, 1)) : W p l e R s m args below meth c s.heap [] cells slots (MQ below (vp_Si (fun r => r = v)) args s cells slots (fun _ => False)) (F0 m pc ls [.int v]) :=
  W.iret hx hb hr (fun _ ht _ => ⟨v, rfl, rfl, ht⟩) (fun _ h => absurd h List.not_mem_nil) hdg hlocks
theorem rr_z {v : Int32} {ty : FieldType} (hx : p.tables.exec = Jvm.exec) (hb : c.code = cc) (hr : meth.sig.returnType = some ty) (hlocks : meth.locks = false) (hn : narrow ty (.int v) = .int v) (hdg : decode cc pc = .ok (.ireturn, 1)) : W p l e R s m args below meth c s.heap [] cells slots (MQ below (vp_Si (fun r => r = v)) args s cells slots (fun _ => False)) (F0 m pc ls [.int v]) :=
  W.zret hx hb hr hn (fun _ ht _ => ⟨v, rfl, rfl, ht⟩) (fun _ h => absurd h List.not_mem_nil) hdg hlocks
theorem rr_l {v : Int64} (hx : p.tables.exec = Jvm.exec) (hb : c.code = cc) (hr : meth.sig.returnType = some .long) (hlocks : meth.locks = false) (hdg : decode cc pc = .ok (.lreturn, 1)) : W p l e R s m args below meth c s.heap [] cells slots (MQ below (vp_Sl (fun r => r = v)) args s cells slots (fun _ => False)) (F0 m pc ls [.long v]) :=
  W.lret hx hb hr (fun _ ht _ => ⟨v, rfl, rfl, ht⟩) (fun _ h => absurd h List.not_mem_nil) hdg hlocks
theorem wr_i {v : Int32} {w : va_W} (hx : p.tables.exec = Jvm.exec) (hb : c.code = cc) (hr : meth.sig.returnType = some .int) (hlocks : meth.locks = false) (hP : va_P (dC, dI) vwCl w H) (hD : va_D A w) (hS : va_S A s.heap H locs) (hdg : decode cc pc = .ok (.ireturn, 1)) : W p l e R s m args below meth c H locs cells slots (MQ below (QwI dC dI A w v) args s cells slots A) (F0 m pc ls [.int v]) :=
  W.iret hx hb hr (fun _ ht _ => ⟨⟨v, (), rfl, rfl, by rw [ht]; exact hP, hD⟩, hS.F ht⟩) hS.2.2 hdg hlocks
theorem wr_z {v : Int32} {ty : FieldType} {w : va_W} (hx : p.tables.exec = Jvm.exec) (hb : c.code = cc) (hr : meth.sig.returnType = some ty) (hlocks : meth.locks = false) (hn : narrow ty (.int v) = .int v) (hP : va_P (dC, dI) vwCl w H) (hD : va_D A w) (hS : va_S A s.heap H locs) (hdg : decode cc pc = .ok (.ireturn, 1)) : W p l e R s m args below meth c H locs cells slots (MQ below (QwI dC dI A w v) args s cells slots A) (F0 m pc ls [.int v]) :=
  W.zret hx hb hr hn (fun _ ht _ => ⟨⟨v, (), rfl, rfl, by rw [ht]; exact hP, hD⟩, hS.F ht⟩) hS.2.2 hdg hlocks
theorem wr_l {v : Int64} {w : va_W} (hx : p.tables.exec = Jvm.exec) (hb : c.code = cc) (hr : meth.sig.returnType = some .long) (hlocks : meth.locks = false) (hP : va_P (dC, dI) vwCl w H) (hD : va_D A w) (hS : va_S A s.heap H locs) (hdg : decode cc pc = .ok (.lreturn, 1)) : W p l e R s m args below meth c H locs cells slots (MQ below (QwL dC dI A w v) args s cells slots A) (F0 m pc ls [.long v]) :=
  W.lret hx hb hr (fun _ ht _ => ⟨⟨v, (), rfl, rfl, by rw [ht]; exact hP, hD⟩, hS.F ht⟩) hS.2.2 hdg hlocks
theorem wr_v {w : va_W} (hx : p.tables.exec = Jvm.exec) (hb : c.code = cc) (hr : meth.sig.returnType = none) (hlocks : meth.locks = false) (hP : va_P (dC, dI) vwCl w H) (hD : va_D A w) (hS : va_S A s.heap H locs) (hdg : decode cc pc = .ok (.return_, 1)) : W p l e R s m args below meth c H locs cells slots (MQ below (QwV dC dI A w) args s cells slots A) (F0 m pc ls []) :=
  W.vret hx hb hr (fun _ ht _ => ⟨⟨(), rfl, trivial, by rw [ht]; exact hP, hD⟩, hS.F ht⟩) hS.2.2 hdg hlocks
theorem rc_i {v : Int32} {a : Array Value} {st0 rest : List Value} (hr : va_Run p l e R s m args below meth c H locs cells slots 0 0 (F0 m pc ls st0) rest (vp_Si (fun r => r = v) a) (fun _ => False)) (kk : W p l e R s m args below meth c H locs cells slots Q (F0 m (pc + 3) ls (.int v :: rest))) : W p l e R s m args below meth c H locs cells slots Q (F0 m pc ls st0) :=
  vp_callSi hr.run (fun r h => by rw [h]; exact kk)
theorem rc_l {v : Int64} {a : Array Value} {st0 rest : List Value} (hr : va_Run p l e R s m args below meth c H locs cells slots 0 0 (F0 m pc ls st0) rest (vp_Sl (fun r => r = v) a) (fun _ => False)) (kk : W p l e R s m args below meth c H locs cells slots Q (F0 m (pc + 3) ls (.long v :: rest))) : W p l e R s m args below meth c H locs cells slots Q (F0 m pc ls st0) :=
  vp_callSl hr.run (fun r h => by rw [h]; exact kk)
theorem wc_i {v : Int32} {a : Array Value} {st0 rest : List Value} {ws wc wr w1 : va_W} (hr : va_Run p l e R s m args below meth c H locs cells slots 0 0 (F0 m pc ls st0) rest (QwI dC dI (va_A wc H.size) w1 v a) (va_A wc H.size)) (hP : va_P (dC, dI) vwCl ws H) (hD : va_D A0 ws) (hS : va_S A0 H0 H locs) (hA : ∀ q, H0.size ≤ q → A0 q) (isC isR : List Nat) (hC : isC.map (fun i => ws[i]?) = wc.map some) (hR : isR.map (fun i => ws[i]?) = wr.map some) (hn : va_nd isR = true) (hdis : ∀ i ∈ isR, i ∉ isC)
    (kk : ∀ (H1 : Heap) (locs1 : List Loc), va_P (dC, dI) vwCl (wr ++ w1) H1 → va_D A0 (wr ++ w1) → va_S A0 H0 H1 locs1 → W p l e R s m args below meth c H1 locs1 cells slots Q (F0 m (pc + 3) ls (.int v :: rest))) : W p l e R s m args below meth c H locs cells slots Q (F0 m pc ls st0) := by
  have hF := va_free hD hS hA isC hC
  refine va_calli hr hS (fun q _ h => hF q h) hF (fun r u t H1 locs1 ht hvm hw hB hz hk hS1 => ?_)
  obtain ⟨hP1, hD1⟩ := hB
  rw [ht] at hP1
  obtain ⟨hP2, hD2⟩ := va_join hP hD isC isR hC hR hn hdis hk hF hP1 hD1
  rw [hw]
  exact kk H1 locs1 hP2 hD2 hS1
theorem wc_l {v : Int64} {a : Array Value} {st0 rest : List Value} {ws wc wr w1 : va_W} (hr : va_Run p l e R s m args below meth c H locs cells slots 0 0 (F0 m pc ls st0) rest (QwL dC dI (va_A wc H.size) w1 v a) (va_A wc H.size)) (hP : va_P (dC, dI) vwCl ws H) (hD : va_D A0 ws) (hS : va_S A0 H0 H locs) (hA : ∀ q, H0.size ≤ q → A0 q) (isC isR : List Nat) (hC : isC.map (fun i => ws[i]?) = wc.map some) (hR : isR.map (fun i => ws[i]?) = wr.map some) (hn : va_nd isR = true) (hdis : ∀ i ∈ isR, i ∉ isC)
    (kk : ∀ (H1 : Heap) (locs1 : List Loc), va_P (dC, dI) vwCl (wr ++ w1) H1 → va_D A0 (wr ++ w1) → va_S A0 H0 H1 locs1 → W p l e R s m args below meth c H1 locs1 cells slots Q (F0 m (pc + 3) ls (.long v :: rest))) : W p l e R s m args below meth c H locs cells slots Q (F0 m pc ls st0) := by
  have hF := va_free hD hS hA isC hC
  refine va_calll hr hS (fun q _ h => hF q h) hF (fun r u t H1 locs1 ht hvm hw hB hz hk hS1 => ?_)
  obtain ⟨hP1, hD1⟩ := hB
  rw [ht] at hP1
  obtain ⟨hP2, hD2⟩ := va_join hP hD isC isR hC hR hn hdis hk hF hP1 hD1
  rw [hw]
  exact kk H1 locs1 hP2 hD2 hS1
theorem wc_v {a : Array Value} {st0 rest : List Value} {ws wc wr w1 : va_W} (hr : va_Run p l e R s m args below meth c H locs cells slots 0 0 (F0 m pc ls st0) rest (QwV dC dI (va_A wc H.size) w1 a) (va_A wc H.size)) (hP : va_P (dC, dI) vwCl ws H) (hD : va_D A0 ws) (hS : va_S A0 H0 H locs) (hA : ∀ q, H0.size ≤ q → A0 q) (isC isR : List Nat) (hC : isC.map (fun i => ws[i]?) = wc.map some) (hR : isR.map (fun i => ws[i]?) = wr.map some) (hn : va_nd isR = true) (hdis : ∀ i ∈ isR, i ∉ isC)
    (kk : ∀ (H1 : Heap) (locs1 : List Loc), va_P (dC, dI) vwCl (wr ++ w1) H1 → va_D A0 (wr ++ w1) → va_S A0 H0 H1 locs1 → W p l e R s m args below meth c H1 locs1 cells slots Q (F0 m (pc + 3) ls rest)) : W p l e R s m args below meth c H locs cells slots Q (F0 m pc ls st0) := by
  have hF := va_free hD hS hA isC hC
  refine va_callv hr hS (fun q _ h => hF q h) hF (fun u t H1 locs1 ht hvm hw hB hz hk hS1 => ?_)
  obtain ⟨hP1, hD1⟩ := hB
  rw [ht] at hP1
  obtain ⟨hP2, hD2⟩ := va_join hP hD isC isR hC hR hn hdis hk hF hP1 hD1
  exact kk H1 locs1 hP2 hD2 hS1
theorem pv_r {ws wc : va_W} {b ci : Nat} {q : vw_C} {fs : List Value} {As : List Value} (hK : gK dC dI cI cZ s) (hP : va_P (dC, dI) vwCl ws H) (is : List Nat) (hs : is.filterMap (fun i => ws[i]?) = wc) (q0 : Nat) (hc : vwCl[ci]? = some q) (he : wc[q0]? = some (b, .inr (ci, fs))) : PreV s H q.1 b (PcR dC dI cI cZ (.ref b :: As) wc) As :=
  ⟨fun a U g mk h => ⟨h.1, h.2.1, h.2.2.calling⟩, va_recv hK.1 (hP.sub is hs) hc he, fun U hU hW => ⟨rfl, by rw [hU]; exact hP.sub is hs, hK.moved hW⟩⟩
theorem pv_w {ws wc : va_W} {b ci : Nat} {q : vw_C} {fs : List Value} {As : List Value} (hK : gK dC dI cI cZ s) (hP : va_P (dC, dI) vwCl ws H) (hD : va_D A ws) (is : List Nat) (hs : is.filterMap (fun i => ws[i]?) = wc) (hs2 : is.map (fun i => ws[i]?) = wc.map some) (hn : va_nd is = true) (q0 : Nat) (hc : vwCl[ci]? = some q) (he : wc[q0]? = some (b, .inr (ci, fs))) : PreV s H q.1 b (PcW dC dI cI cZ (.ref b :: As) wc H.size) As :=
  ⟨fun a U g mk h => ⟨h.1, h.2.1, h.2.2.1, h.2.2.2.1.calling, h.2.2.2.2⟩, va_recv hK.1 (hP.sub is hs) hc he, fun U hU hW => ⟨rfl, by rw [hU], by rw [hU]; exact hP.sub is hs, hK.moved hW, (hD.sub is hn hs2).weaken (fun _ _ _ _ => trivial)⟩⟩
theorem ps_r {ws wc : va_W} {As : List Value} (hK : gK dC dI cI cZ s) (hP : va_P (dC, dI) vwCl ws H) (is : List Nat) (hs : is.filterMap (fun i => ws[i]?) = wc) : PreS s H (PcR dC dI cI cZ As wc) As :=
  ⟨fun a U g mk h => ⟨h.1, h.2.1, h.2.2.calling⟩, fun U hU hW => ⟨rfl, by rw [hU]; exact hP.sub is hs, hK.moved hW⟩⟩
theorem ps_w {ws wc : va_W} {As : List Value} (hK : gK dC dI cI cZ s) (hP : va_P (dC, dI) vwCl ws H) (hD : va_D A ws) (is : List Nat) (hs : is.filterMap (fun i => ws[i]?) = wc) (hs2 : is.map (fun i => ws[i]?) = wc.map some) (hn : va_nd is = true) : PreS s H (PcW dC dI cI cZ As wc H.size) As :=
  ⟨fun a U g mk h => ⟨h.1, h.2.1, h.2.2.1, h.2.2.2.1.calling, h.2.2.2.2⟩, fun U hU hW => ⟨rfl, by rw [hU], by rw [hU]; exact hP.sub is hs, hK.moved hW, (hD.sub is hn hs2).weaken (fun _ _ _ _ => trivial)⟩⟩
end Rows
