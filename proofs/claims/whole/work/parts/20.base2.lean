/-! Rows for constructors and for the law. -/
abbrev QwC {S : Type} (dC : Nat → ClassId) (dI : Nat → Nat → Nat) (A : Nat → Prop) (wf : S → va_W) : Array Value → State → Outcome → State → Prop := va_Qv (S := S) (fun _ => True) (fun u t => va_P (dC, dI) vwCl (wf u) t.heap ∧ va_D A (wf u)) A
section Rows2
variable {p : Program} {l : Launch} {e : Env} {R : Room} {s : State} {m : MethodId} {args : Array Value} {below : List Frame} {meth : Method} {c : Code} {H H0 : Heap} {locs : List Loc} {cells slots : Nat} {Q : State → Prop} {cc : ByteArray} {pc : Nat} {ls : Array Slot} {dC : Nat → ClassId} {dI : Nat → Nat → Nat} {cI cZ : ClassId} {A A0 : Nat → Prop}
theorem wc_c {S : Type} {wf : S → va_W} {mc ms : Nat} {a : Array Value} {st0 rest : List Value} {ws wc wr : va_W} (hr : va_Run p l e R s m args below meth c H locs cells slots mc ms (F0 m pc ls st0) rest (QwC dC dI (va_A wc H.size) wf a) (va_A wc H.size)) (hP : va_P (dC, dI) vwCl ws H) (hD : va_D A0 ws) (hS : va_S A0 H0 H locs) (hA : ∀ q, H0.size ≤ q → A0 q) (isC isR : List Nat) (hC : isC.map (fun i => ws[i]?) = wc.map some) (hR : isR.map (fun i => ws[i]?) = wr.map some) (hn : va_nd isR = true) (hdis : ∀ i ∈ isR, i ∉ isC)
    (kk : ∀ (u : S) (H1 : Heap) (locs1 : List Loc), va_P (dC, dI) vwCl (wr ++ wf u) H1 → va_D A0 (wr ++ wf u) → va_S A0 H0 H1 locs1 → W p l e R s m args below meth c H1 locs1 (cells + mc) (slots + ms) Q (F0 m (pc + 3) ls rest)) : W p l e R s m args below meth c H locs cells slots Q (F0 m pc ls st0) := by
  have hF := va_free hD hS hA isC hC
  refine va_callv hr hS (fun q _ h => hF q h) hF (fun u t H1 locs1 ht hvm hw hB hz hk hS1 => ?_)
  obtain ⟨hP1, hD1⟩ := hB
  rw [ht] at hP1
  obtain ⟨hP2, hD2⟩ := va_join hP hD isC isR hC hR hn hdis hk hF hP1 hD1
  exact kk u H1 locs1 hP2 hD2 hS1
theorem cA_int {cA : ClassId} (h : va_K (dC, dI) vwCl (kT cI cZ ++ [(cA, .int)]) s) : cA = cI := by
  have h1 : s.vm.findClass ("[" ++ FieldType.int.toString) = some cI := (h.2 0 _ rfl).2
  have h2 : s.vm.findClass ("[" ++ FieldType.int.toString) = some cA := (h.2 2 _ rfl).2
  exact Option.some.inj (h2.symm.trans h1)
theorem cA_boolean {cA : ClassId} (h : va_K (dC, dI) vwCl (kT cI cZ ++ [(cA, .boolean)]) s) : cA = cZ := by
  have h1 : s.vm.findClass ("[" ++ FieldType.boolean.toString) = some cZ := (h.2 1 _ rfl).2
  have h2 : s.vm.findClass ("[" ++ FieldType.boolean.toString) = some cA := (h.2 2 _ rfl).2
  exact Option.some.inj (h2.symm.trans h1)
theorem sw_out {x : Int32} (h0 : ¬ x = 0) (h1 : ¬ x = 1) (h2 : ¬ x = 2) (h3 : ¬ x = 3) (h4 : ¬ x = 4) (h5 : ¬ x = 5) (h6 : ¬ x = 6) (h7 : ¬ x = 7) (h8 : ¬ x = 8) (h9 : ¬ x = 9) (h10 : ¬ x = 10) (h11 : ¬ x = 11) (h12 : ¬ x = 12) (h13 : ¬ x = 13) (h14 : ¬ x = 14) (h15 : ¬ x = 15) : x.toInt < 0 ∨ 15 < x.toInt := by
  have k : ∀ y : Int32, ¬ x = y → x.toInt ≠ y.toInt := fun y h e => h (Int32.toInt_inj.mp e)
  have e0 : x.toInt ≠ 0 := k 0 h0
  have e1 : x.toInt ≠ 1 := k 1 h1
  have e2 : x.toInt ≠ 2 := k 2 h2
  have e3 : x.toInt ≠ 3 := k 3 h3
  have e4 : x.toInt ≠ 4 := k 4 h4
  have e5 : x.toInt ≠ 5 := k 5 h5
  have e6 : x.toInt ≠ 6 := k 6 h6
  have e7 : x.toInt ≠ 7 := k 7 h7
  have e8 : x.toInt ≠ 8 := k 8 h8
  have e9 : x.toInt ≠ 9 := k 9 h9
  have e10 : x.toInt ≠ 10 := k 10 h10
  have e11 : x.toInt ≠ 11 := k 11 h11
  have e12 : x.toInt ≠ 12 := k 12 h12
  have e13 : x.toInt ≠ 13 := k 13 h13
  have e14 : x.toInt ≠ 14 := k 14 h14
  have e15 : x.toInt ≠ 15 := k 15 h15
  omega
end Rows2
