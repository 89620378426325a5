section
-- ===== PART A: goes FIRST, ahead of the names: the tables' words, and 'selects' of the private methods out of them =====
/-- a private method of a class that the tables say can be made, by its rows of tables_1 -/
def lw_okq (q : MethodName × Nat) : Prop := (q.1.cls ≠ "java/lang/invoke/MethodHandle" ∧ q.1.cls ≠ "java/lang/invoke/VarHandle") ∧ Cond.instantiable q.1.cls q.2 ∈ tables_1 ∧ Cond.privateMethod q.1 ∈ tables_1 ∧ Cond.instanceMethod q.1 ∈ tables_1
theorem lw_p0 : lw_okq (⟨"FannedSites$Points", "isEarlier", "(II)Z"⟩, 5) := ⟨⟨by decide +kernel, by decide +kernel⟩, List.mem_of_getElem? (i := 16) (by decide +kernel), List.mem_of_getElem? (i := 121) (by decide +kernel), List.mem_of_getElem? (i := 122) (by decide +kernel)⟩
theorem lw_p1 : lw_okq (⟨"FannedSites", "refresh", "()V"⟩, 4) := ⟨⟨by decide +kernel, by decide +kernel⟩, List.mem_of_getElem? (i := 8) (by decide +kernel), List.mem_of_getElem? (i := 166) (by decide +kernel), List.mem_of_getElem? (i := 167) (by decide +kernel)⟩
theorem lw_p2 : lw_okq (⟨"FannedSites$Outline", "push", "(LFannedSites$Points;I)V"⟩, 3) := ⟨⟨by decide +kernel, by decide +kernel⟩, List.mem_of_getElem? (i := 40) (by decide +kernel), List.mem_of_getElem? (i := 193) (by decide +kernel), List.mem_of_getElem? (i := 194) (by decide +kernel)⟩
theorem lw_p3 : lw_okq (⟨"FannedSites$Mesh", "linkLine", "(LFannedSites$Outline;)V"⟩, 8) := ⟨⟨by decide +kernel, by decide +kernel⟩, List.mem_of_getElem? (i := 56) (by decide +kernel), List.mem_of_getElem? (i := 208) (by decide +kernel), List.mem_of_getElem? (i := 209) (by decide +kernel)⟩
theorem lw_p4 : lw_okq (⟨"FannedSites$Mesh", "link", "(II)V"⟩, 8) := ⟨⟨by decide +kernel, by decide +kernel⟩, List.mem_of_getElem? (i := 56) (by decide +kernel), List.mem_of_getElem? (i := 220) (by decide +kernel), List.mem_of_getElem? (i := 221) (by decide +kernel)⟩
theorem lw_p5 : lw_okq (⟨"FannedSites$Mesh", "awaitOutline", "(LFannedSites$Outline;)V"⟩, 8) := ⟨⟨by decide +kernel, by decide +kernel⟩, List.mem_of_getElem? (i := 56) (by decide +kernel), List.mem_of_getElem? (i := 224) (by decide +kernel), List.mem_of_getElem? (i := 225) (by decide +kernel)⟩
theorem lw_p6 : lw_okq (⟨"FannedSites$Mesh", "await", "(II)V"⟩, 8) := ⟨⟨by decide +kernel, by decide +kernel⟩, List.mem_of_getElem? (i := 56) (by decide +kernel), List.mem_of_getElem? (i := 228) (by decide +kernel), List.mem_of_getElem? (i := 229) (by decide +kernel)⟩
theorem lw_p7 : lw_okq (⟨"FannedSites$Mesh", "isLinked", "(II)Z"⟩, 8) := ⟨⟨by decide +kernel, by decide +kernel⟩, List.mem_of_getElem? (i := 56) (by decide +kernel), List.mem_of_getElem? (i := 236) (by decide +kernel), List.mem_of_getElem? (i := 237) (by decide +kernel)⟩
theorem lw_p8 : lw_okq (⟨"FannedSites$Mesh", "gatherRing", "(LFannedSites$Points;III)V"⟩, 8) := ⟨⟨by decide +kernel, by decide +kernel⟩, List.mem_of_getElem? (i := 56) (by decide +kernel), List.mem_of_getElem? (i := 254) (by decide +kernel), List.mem_of_getElem? (i := 255) (by decide +kernel)⟩
theorem lw_p9 : lw_okq (⟨"FannedSites$Mesh", "addToRing", "(LFannedSites$Points;I)V"⟩, 8) := ⟨⟨by decide +kernel, by decide +kernel⟩, List.mem_of_getElem? (i := 56) (by decide +kernel), List.mem_of_getElem? (i := 258) (by decide +kernel), List.mem_of_getElem? (i := 259) (by decide +kernel)⟩
theorem lw_p10 : lw_okq (⟨"FannedSites$Mesh", "addFace", "()V"⟩, 8) := ⟨⟨by decide +kernel, by decide +kernel⟩, List.mem_of_getElem? (i := 56) (by decide +kernel), List.mem_of_getElem? (i := 262) (by decide +kernel), List.mem_of_getElem? (i := 263) (by decide +kernel)⟩
theorem lw_p11 : lw_okq (⟨"FannedSites$Mesh", "addTriangle", "(III)V"⟩, 8) := ⟨⟨by decide +kernel, by decide +kernel⟩, List.mem_of_getElem? (i := 56) (by decide +kernel), List.mem_of_getElem? (i := 266) (by decide +kernel), List.mem_of_getElem? (i := 267) (by decide +kernel)⟩
theorem lw_p12 : lw_okq (⟨"FannedSites", "covers", "(III)Z"⟩, 4) := ⟨⟨by decide +kernel, by decide +kernel⟩, List.mem_of_getElem? (i := 8) (by decide +kernel), List.mem_of_getElem? (i := 311) (by decide +kernel), List.mem_of_getElem? (i := 312) (by decide +kernel)⟩
theorem lw_p13 : lw_okq (⟨"FannedSitesModel", "siteAt", "(II)I"⟩, 10) := ⟨⟨by decide +kernel, by decide +kernel⟩, List.mem_of_getElem? (i := 352) (by decide +kernel), List.mem_of_getElem? (i := 398) (by decide +kernel), List.mem_of_getElem? (i := 399) (by decide +kernel)⟩
theorem lw_p14 : lw_okq (⟨"FannedSitesModel", "is", "(I)Z"⟩, 10) := ⟨⟨by decide +kernel, by decide +kernel⟩, List.mem_of_getElem? (i := 352) (by decide +kernel), List.mem_of_getElem? (i := 406) (by decide +kernel), List.mem_of_getElem? (i := 407) (by decide +kernel)⟩
theorem lw_p15 : lw_okq (⟨"FannedSitesModel", "work", "()V"⟩, 10) := ⟨⟨by decide +kernel, by decide +kernel⟩, List.mem_of_getElem? (i := 352) (by decide +kernel), List.mem_of_getElem? (i := 427) (by decide +kernel), List.mem_of_getElem? (i := 428) (by decide +kernel)⟩
def lw_privs_1 : List (MethodName × Nat) := [(⟨"FannedSites$Points", "isEarlier", "(II)Z"⟩, 5), (⟨"FannedSites", "refresh", "()V"⟩, 4), (⟨"FannedSites$Outline", "push", "(LFannedSites$Points;I)V"⟩, 3), (⟨"FannedSites$Mesh", "linkLine", "(LFannedSites$Outline;)V"⟩, 8), (⟨"FannedSites$Mesh", "link", "(II)V"⟩, 8), (⟨"FannedSites$Mesh", "awaitOutline", "(LFannedSites$Outline;)V"⟩, 8), (⟨"FannedSites$Mesh", "await", "(II)V"⟩, 8), (⟨"FannedSites$Mesh", "isLinked", "(II)Z"⟩, 8), (⟨"FannedSites$Mesh", "gatherRing", "(LFannedSites$Points;III)V"⟩, 8), (⟨"FannedSites$Mesh", "addToRing", "(LFannedSites$Points;I)V"⟩, 8), (⟨"FannedSites$Mesh", "addFace", "()V"⟩, 8), (⟨"FannedSites$Mesh", "addTriangle", "(III)V"⟩, 8), (⟨"FannedSites", "covers", "(III)Z"⟩, 4), (⟨"FannedSitesModel", "siteAt", "(II)I"⟩, 10), (⟨"FannedSitesModel", "is", "(I)Z"⟩, 10), (⟨"FannedSitesModel", "work", "()V"⟩, 10)]
theorem lw_r1 : ∀ q ∈ lw_privs_1, lw_okq q := List.forall_mem_cons.mpr ⟨lw_p0, List.forall_mem_cons.mpr ⟨lw_p1, List.forall_mem_cons.mpr ⟨lw_p2, List.forall_mem_cons.mpr ⟨lw_p3, List.forall_mem_cons.mpr ⟨lw_p4, List.forall_mem_cons.mpr ⟨lw_p5, List.forall_mem_cons.mpr ⟨lw_p6, List.forall_mem_cons.mpr ⟨lw_p7, List.forall_mem_cons.mpr ⟨lw_p8, List.forall_mem_cons.mpr ⟨lw_p9, List.forall_mem_cons.mpr ⟨lw_p10, List.forall_mem_cons.mpr ⟨lw_p11, List.forall_mem_cons.mpr ⟨lw_p12, List.forall_mem_cons.mpr ⟨lw_p13, List.forall_mem_cons.mpr ⟨lw_p14, List.forall_mem_cons.mpr ⟨lw_p15, fun _ h => absurd h List.not_mem_nil⟩⟩⟩⟩⟩⟩⟩⟩⟩⟩⟩⟩⟩⟩⟩⟩
theorem lw_p16 : lw_okq (⟨"FannedSitesModel", "isTriangle", "(III)Z"⟩, 10) := ⟨⟨by decide +kernel, by decide +kernel⟩, List.mem_of_getElem? (i := 352) (by decide +kernel), List.mem_of_getElem? (i := 431) (by decide +kernel), List.mem_of_getElem? (i := 432) (by decide +kernel)⟩
theorem lw_p17 : lw_okq (⟨"FannedSitesModel", "side", "(III)I"⟩, 10) := ⟨⟨by decide +kernel, by decide +kernel⟩, List.mem_of_getElem? (i := 352) (by decide +kernel), List.mem_of_getElem? (i := 435) (by decide +kernel), List.mem_of_getElem? (i := 436) (by decide +kernel)⟩
theorem lw_p18 : lw_okq (⟨"FannedSitesModel", "sideOf", "(IIII)I"⟩, 10) := ⟨⟨by decide +kernel, by decide +kernel⟩, List.mem_of_getElem? (i := 352) (by decide +kernel), List.mem_of_getElem? (i := 439) (by decide +kernel), List.mem_of_getElem? (i := 440) (by decide +kernel)⟩
theorem lw_p19 : lw_okq (⟨"FannedSitesModel", "earlier", "(II)Z"⟩, 10) := ⟨⟨by decide +kernel, by decide +kernel⟩, List.mem_of_getElem? (i := 352) (by decide +kernel), List.mem_of_getElem? (i := 443) (by decide +kernel), List.mem_of_getElem? (i := 444) (by decide +kernel)⟩
theorem lw_p20 : lw_okq (⟨"FannedSitesModel", "circle", "(IIII)I"⟩, 10) := ⟨⟨by decide +kernel, by decide +kernel⟩, List.mem_of_getElem? (i := 352) (by decide +kernel), List.mem_of_getElem? (i := 447) (by decide +kernel), List.mem_of_getElem? (i := 448) (by decide +kernel)⟩
theorem lw_p21 : lw_okq (⟨"FannedSitesModel", "has", "(II)Z"⟩, 10) := ⟨⟨by decide +kernel, by decide +kernel⟩, List.mem_of_getElem? (i := 352) (by decide +kernel), List.mem_of_getElem? (i := 466) (by decide +kernel), List.mem_of_getElem? (i := 467) (by decide +kernel)⟩
theorem lw_p22 : lw_okq (⟨"FannedSitesModel", "flatNeighbours", "(I)I"⟩, 10) := ⟨⟨by decide +kernel, by decide +kernel⟩, List.mem_of_getElem? (i := 352) (by decide +kernel), List.mem_of_getElem? (i := 490) (by decide +kernel), List.mem_of_getElem? (i := 491) (by decide +kernel)⟩
theorem lw_p23 : lw_okq (⟨"FannedSitesModel", "link", "(IIII)I"⟩, 10) := ⟨⟨by decide +kernel, by decide +kernel⟩, List.mem_of_getElem? (i := 352) (by decide +kernel), List.mem_of_getElem? (i := 494) (by decide +kernel), List.mem_of_getElem? (i := 495) (by decide +kernel)⟩
theorem lw_p24 : lw_okq (⟨"FannedSitesModel", "follow", "(III)Z"⟩, 10) := ⟨⟨by decide +kernel, by decide +kernel⟩, List.mem_of_getElem? (i := 352) (by decide +kernel), List.mem_of_getElem? (i := 498) (by decide +kernel), List.mem_of_getElem? (i := 499) (by decide +kernel)⟩
theorem lw_p25 : lw_okq (⟨"FannedSitesModel", "goRound", "()V"⟩, 10) := ⟨⟨by decide +kernel, by decide +kernel⟩, List.mem_of_getElem? (i := 352) (by decide +kernel), List.mem_of_getElem? (i := 506) (by decide +kernel), List.mem_of_getElem? (i := 507) (by decide +kernel)⟩
theorem lw_p26 : lw_okq (⟨"FannedSitesModel", "earliest", "()I"⟩, 10) := ⟨⟨by decide +kernel, by decide +kernel⟩, List.mem_of_getElem? (i := 352) (by decide +kernel), List.mem_of_getElem? (i := 510) (by decide +kernel), List.mem_of_getElem? (i := 511) (by decide +kernel)⟩
theorem lw_p27 : lw_okq (⟨"FannedSitesModel", "later", "(I)I"⟩, 10) := ⟨⟨by decide +kernel, by decide +kernel⟩, List.mem_of_getElem? (i := 352) (by decide +kernel), List.mem_of_getElem? (i := 514) (by decide +kernel), List.mem_of_getElem? (i := 515) (by decide +kernel)⟩
theorem lw_p28 : lw_okq (⟨"FannedSitesModel", "onward", "(I)I"⟩, 10) := ⟨⟨by decide +kernel, by decide +kernel⟩, List.mem_of_getElem? (i := 352) (by decide +kernel), List.mem_of_getElem? (i := 518) (by decide +kernel), List.mem_of_getElem? (i := 519) (by decide +kernel)⟩
theorem lw_p29 : lw_okq (⟨"FannedSitesModel", "distance", "(II)J"⟩, 10) := ⟨⟨by decide +kernel, by decide +kernel⟩, List.mem_of_getElem? (i := 352) (by decide +kernel), List.mem_of_getElem? (i := 522) (by decide +kernel), List.mem_of_getElem? (i := 523) (by decide +kernel)⟩
def lw_privs_2 : List (MethodName × Nat) := [(⟨"FannedSitesModel", "isTriangle", "(III)Z"⟩, 10), (⟨"FannedSitesModel", "side", "(III)I"⟩, 10), (⟨"FannedSitesModel", "sideOf", "(IIII)I"⟩, 10), (⟨"FannedSitesModel", "earlier", "(II)Z"⟩, 10), (⟨"FannedSitesModel", "circle", "(IIII)I"⟩, 10), (⟨"FannedSitesModel", "has", "(II)Z"⟩, 10), (⟨"FannedSitesModel", "flatNeighbours", "(I)I"⟩, 10), (⟨"FannedSitesModel", "link", "(IIII)I"⟩, 10), (⟨"FannedSitesModel", "follow", "(III)Z"⟩, 10), (⟨"FannedSitesModel", "goRound", "()V"⟩, 10), (⟨"FannedSitesModel", "earliest", "()I"⟩, 10), (⟨"FannedSitesModel", "later", "(I)I"⟩, 10), (⟨"FannedSitesModel", "onward", "(I)I"⟩, 10), (⟨"FannedSitesModel", "distance", "(II)J"⟩, 10)]
theorem lw_r2 : ∀ q ∈ lw_privs_2, lw_okq q := List.forall_mem_cons.mpr ⟨lw_p16, List.forall_mem_cons.mpr ⟨lw_p17, List.forall_mem_cons.mpr ⟨lw_p18, List.forall_mem_cons.mpr ⟨lw_p19, List.forall_mem_cons.mpr ⟨lw_p20, List.forall_mem_cons.mpr ⟨lw_p21, List.forall_mem_cons.mpr ⟨lw_p22, List.forall_mem_cons.mpr ⟨lw_p23, List.forall_mem_cons.mpr ⟨lw_p24, List.forall_mem_cons.mpr ⟨lw_p25, List.forall_mem_cons.mpr ⟨lw_p26, List.forall_mem_cons.mpr ⟨lw_p27, List.forall_mem_cons.mpr ⟨lw_p28, List.forall_mem_cons.mpr ⟨lw_p29, fun _ h => absurd h List.not_mem_nil⟩⟩⟩⟩⟩⟩⟩⟩⟩⟩⟩⟩⟩⟩
def lw_privs : List (MethodName × Nat) := lw_privs_1 ++ (lw_privs_2)
def lw_tbl : List Cond := k2_sels lw_privs ++ tables_1
theorem lw_privs_ok : ∀ q ∈ lw_privs, lw_okq q := by
  show ∀ q ∈ lw_privs_1 ++ (lw_privs_2), lw_okq q
  exact List.forall_mem_append.mpr ⟨lw_r1, lw_r2⟩
end
section
/-! Names: classes, fields, methods; the words that may be used; written by program (wip/gen). -/
abbrev R_F : String := "FannedSites"
abbrev R_P : String := "FannedSites$Points"
abbrev R_O : String := "FannedSites$Outline"
abbrev R_M : String := "FannedSites$Mesh"
abbrev R_N : String := "FannedSitesModel"
abbrev R_J : String := "java/util/Arrays"
abbrev R_L : String := "FannedSitesLaw"
def T_F : u_T := fun k => match k with
  | 0 => ("FannedSites", "points", "LFannedSites$Points;", true)
  | 1 => ("FannedSites", "outline", "LFannedSites$Outline;", true)
  | 2 => ("FannedSites", "mesh", "LFannedSites$Mesh;", true)
  | _ => ("FannedSites", "stale", "Z", false)
def ty_F : Nat → FieldType := fun k => match k with
  | 0 => .object "FannedSites$Points"
  | 1 => .object "FannedSites$Outline"
  | 2 => .object "FannedSites$Mesh"
  | _ => .boolean
abbrev ws_F : List Cond := u_ws R_F T_F 4
theorem nok_F : ∀ a, a < 4 → ∀ b, b < 4 → a ≠ b → (T_F a).2.1 ≠ (T_F b).2.1 := by decide +kernel
theorem tok_F : ∀ k, k < 4 → parseFieldDescriptor (T_F k).2.2.1 = some (ty_F k) := by decide +kernel
def T_P : u_T := fun k => match k with
  | 0 => ("FannedSites$Points", "xs", "[I", true)
  | 1 => ("FannedSites$Points", "ys", "[I", true)
  | 2 => ("FannedSites$Points", "taken", "[Z", true)
  | 3 => ("FannedSites$Points", "order", "[I", true)
  | _ => ("FannedSites$Points", "size", "I", false)
def ty_P : Nat → FieldType := fun k => match k with
  | 0 => .array .int
  | 1 => .array .int
  | 2 => .array .boolean
  | 3 => .array .int
  | _ => .int
abbrev ws_P : List Cond := u_ws R_P T_P 5
theorem nok_P : ∀ a, a < 5 → ∀ b, b < 5 → a ≠ b → (T_P a).2.1 ≠ (T_P b).2.1 := by decide +kernel
theorem tok_P : ∀ k, k < 5 → parseFieldDescriptor (T_P k).2.2.1 = some (ty_P k) := by decide +kernel
def T_O : u_T := fun k => match k with
  | 0 => ("FannedSites$Outline", "row", "[I", true)
  | 1 => ("FannedSites$Outline", "size", "I", false)
  | _ => ("FannedSites$Outline", "flat", "Z", false)
def ty_O : Nat → FieldType := fun k => match k with
  | 0 => .array .int
  | 1 => .int
  | _ => .boolean
abbrev ws_O : List Cond := u_ws R_O T_O 3
theorem nok_O : ∀ a, a < 3 → ∀ b, b < 3 → a ≠ b → (T_O a).2.1 ≠ (T_O b).2.1 := by decide +kernel
theorem tok_O : ∀ k, k < 3 → parseFieldDescriptor (T_O k).2.2.1 = some (ty_O k) := by decide +kernel
def T_M : u_T := fun k => match k with
  | 0 => ("FannedSites$Mesh", "keys", "[I", true)
  | 1 => ("FannedSites$Mesh", "faceSizes", "[I", true)
  | 2 => ("FannedSites$Mesh", "size", "I", false)
  | 3 => ("FannedSites$Mesh", "links", "[I", true)
  | 4 => ("FannedSites$Mesh", "waiting", "[I", true)
  | 5 => ("FannedSites$Mesh", "waitingSize", "I", false)
  | 6 => ("FannedSites$Mesh", "ring", "[I", true)
  | _ => ("FannedSites$Mesh", "ringSize", "I", false)
def ty_M : Nat → FieldType := fun k => match k with
  | 0 => .array .int
  | 1 => .array .int
  | 2 => .int
  | 3 => .array .int
  | 4 => .array .int
  | 5 => .int
  | 6 => .array .int
  | _ => .int
abbrev ws_M : List Cond := u_ws R_M T_M 8
theorem nok_M : ∀ a, a < 8 → ∀ b, b < 8 → a ≠ b → (T_M a).2.1 ≠ (T_M b).2.1 := by decide +kernel
theorem tok_M : ∀ k, k < 8 → parseFieldDescriptor (T_M k).2.2.1 = some (ty_M k) := by decide +kernel
def T_N : u_T := fun k => match k with
  | 0 => ("FannedSitesModel", "there", "[Z", true)
  | 1 => ("FannedSitesModel", "xs", "[I", true)
  | 2 => ("FannedSitesModel", "ys", "[I", true)
  | 3 => ("FannedSitesModel", "known", "Z", false)
  | 4 => ("FannedSitesModel", "count", "I", false)
  | 5 => ("FannedSitesModel", "first", "[I", true)
  | 6 => ("FannedSitesModel", "second", "[I", true)
  | 7 => ("FannedSitesModel", "third", "[I", true)
  | 8 => ("FannedSitesModel", "round", "I", false)
  | _ => ("FannedSitesModel", "edge", "[I", true)
def ty_N : Nat → FieldType := fun k => match k with
  | 0 => .array .boolean
  | 1 => .array .int
  | 2 => .array .int
  | 3 => .boolean
  | 4 => .int
  | 5 => .array .int
  | 6 => .array .int
  | 7 => .array .int
  | 8 => .int
  | _ => .array .int
abbrev ws_N : List Cond := u_ws R_N T_N 10
theorem nok_N : ∀ a, a < 10 → ∀ b, b < 10 → a ≠ b → (T_N a).2.1 ≠ (T_N b).2.1 := by decide +kernel
theorem tok_N : ∀ k, k < 10 → parseFieldDescriptor (T_N k).2.2.1 = some (ty_N k) := by decide +kernel
abbrev vwCl : List vw_C := [(R_F, T_F, 4), (R_P, T_P, 5), (R_O, T_O, 3), (R_M, T_M, 8), (R_N, T_N, 10)]
/-- the tables' words that a callee may keep -/
def BIG : List Cond := lw_tbl.filter goodWord
theorem big_of {w : Cond} (i : Nat) (h : tables_1[i]? = some w) (hg : goodWord w = true) : w ∈ BIG := List.mem_filter.mpr ⟨List.mem_append_right _ (List.mem_of_getElem? h), hg⟩
theorem big_pr {w : Cond} (i : Nat) (h : (k2_sels lw_privs)[i]? = some w) (hg : goodWord w = true) : w ∈ BIG := List.mem_filter.mpr ⟨List.mem_append_left _ (List.mem_of_getElem? h), hg⟩
theorem big_good {w : Cond} (h : w ∈ BIG) : w ∈ BIG ∧ ((w.onTables && w.keeps) = true ∨ ∃ ty, w = .arrayClass ty) := ⟨h, good_of_word (List.mem_filter.mp h).2⟩
theorem gd_N {y : MethodName} {b : ByteArray} {n : Nat} {r : Option FieldType} (h5 : Cond.code y b n r ∈ BIG) : GoodIn BIG (Cond.code y b n r :: BIG) := by
  intro w hw
  rcases List.mem_cons.mp hw with rfl | h
  · exact big_good h5
  · exact big_good h
theorem gd_V {own C : String} {idx : Nat} {y : MethodName} {b : ByteArray} {n : Nat} {r : Option FieldType} (h1 : Cond.methodLink own idx y ∈ BIG) (h2 : Cond.instanceMethod y ∈ BIG) (h3 : Cond.selects C y y ∈ BIG) (h4 : Cond.initialized C ∈ BIG) (h5 : Cond.code y b n r ∈ BIG) : GoodIn BIG (wsV own idx C y (Cond.code y b n r :: BIG)) := by
  intro w hw
  unfold wsV at hw
  rcases List.mem_append.mp hw with h | h
  · simp only [List.mem_cons, List.not_mem_nil, or_false] at h
    rcases h with rfl | rfl | rfl | rfl
    · exact big_good h1
    · exact big_good h2
    · exact big_good h3
    · exact big_good h4
  · exact gd_N h5 w h
theorem gd_S {own : String} {idx : Nat} {y : MethodName} {b : ByteArray} {n : Nat} {r : Option FieldType} (h1 : Cond.methodLink own idx y ∈ BIG) (h2 : Cond.static y ∈ BIG) (h4 : Cond.initialized y.cls ∈ BIG) (h5 : Cond.code y b n r ∈ BIG) : GoodIn BIG (va_wsS own idx y (Cond.code y b n r :: BIG)) := by
  intro w hw
  unfold va_wsS at hw
  rcases List.mem_append.mp hw with h | h
  · simp only [List.mem_cons, List.not_mem_nil, or_false] at h
    rcases h with rfl | rfl | rfl
    · exact big_good h1
    · exact big_good h2
    · exact big_good h4
  · exact gd_N h5 w h
def nws : List Cond := [.methodLinkNest "FannedSites" 11 ⟨"FannedSites$Points", "<init>", "()V"⟩ "FannedSites", .methodLinkNest "FannedSites" 18 ⟨"FannedSites$Outline", "<init>", "()V"⟩ "FannedSites", .methodLinkNest "FannedSites" 25 ⟨"FannedSites$Mesh", "<init>", "()V"⟩ "FannedSites", .methodLinkNest "FannedSites$Points" 37 ⟨"FannedSites", "sign", "(J)I"⟩ "FannedSites"]
theorem nws_form : ∀ w ∈ nws, ∃ (a : String) (i : Nat) (x : MethodName) (h : String), w = .methodLinkNest a i x h := by
  intro w hw
  simp only [nws, List.mem_cons, List.not_mem_nil, or_false] at hw
  rcases hw with rfl | rfl | rfl | rfl <;> exact ⟨_, _, _, _, rfl⟩
abbrev b_F_init : ByteArray := prog_1_method_1_code
def y_F_init : MethodName := ⟨R_F, "<init>", "()V"⟩
abbrev w_F_init : List Cond := .code y_F_init b_F_init 1 none :: BIG
theorem hd_F_init : y_F_init.cls ≠ "java/lang/invoke/MethodHandle" ∧ y_F_init.cls ≠ "java/lang/invoke/VarHandle" ∧ (parseMethodDescriptor y_F_init.desc).map (fun d => d.parameters.length) = some 0 := by decide +kernel
abbrev b_F_insert : ByteArray := prog_1_method_2_code
def y_F_insert : MethodName := ⟨R_F, "insert", "(II)I"⟩
abbrev w_F_insert : List Cond := .code y_F_insert b_F_insert 4 (some .int) :: BIG
theorem hd_F_insert : y_F_insert.cls ≠ "java/lang/invoke/MethodHandle" ∧ y_F_insert.cls ≠ "java/lang/invoke/VarHandle" ∧ (parseMethodDescriptor y_F_insert.desc).map (fun d => d.parameters.length) = some 2 := by decide +kernel
abbrev b_F_remove : ByteArray := prog_1_method_3_code
def y_F_remove : MethodName := ⟨R_F, "remove", "(I)Z"⟩
abbrev w_F_remove : List Cond := .code y_F_remove b_F_remove 2 (some .boolean) :: BIG
theorem hd_F_remove : y_F_remove.cls ≠ "java/lang/invoke/MethodHandle" ∧ y_F_remove.cls ≠ "java/lang/invoke/VarHandle" ∧ (parseMethodDescriptor y_F_remove.desc).map (fun d => d.parameters.length) = some 1 := by decide +kernel
abbrev b_F_move : ByteArray := prog_1_method_4_code
def y_F_move : MethodName := ⟨R_F, "move", "(III)I"⟩
abbrev w_F_move : List Cond := .code y_F_move b_F_move 5 (some .int) :: BIG
theorem hd_F_move : y_F_move.cls ≠ "java/lang/invoke/MethodHandle" ∧ y_F_move.cls ≠ "java/lang/invoke/VarHandle" ∧ (parseMethodDescriptor y_F_move.desc).map (fun d => d.parameters.length) = some 3 := by decide +kernel
abbrev b_F_sites : ByteArray := prog_1_method_5_code
def y_F_sites : MethodName := ⟨R_F, "sites", "()I"⟩
abbrev w_F_sites : List Cond := .code y_F_sites b_F_sites 1 (some .int) :: BIG
theorem hd_F_sites : y_F_sites.cls ≠ "java/lang/invoke/MethodHandle" ∧ y_F_sites.cls ≠ "java/lang/invoke/VarHandle" ∧ (parseMethodDescriptor y_F_sites.desc).map (fun d => d.parameters.length) = some 0 := by decide +kernel
abbrev b_F_coordinate : ByteArray := prog_1_method_6_code
def y_F_coordinate : MethodName := ⟨R_F, "coordinate", "(II)I"⟩
abbrev w_F_coordinate : List Cond := .code y_F_coordinate b_F_coordinate 3 (some .int) :: BIG
theorem hd_F_coordinate : y_F_coordinate.cls ≠ "java/lang/invoke/MethodHandle" ∧ y_F_coordinate.cls ≠ "java/lang/invoke/VarHandle" ∧ (parseMethodDescriptor y_F_coordinate.desc).map (fun d => d.parameters.length) = some 2 := by decide +kernel
abbrev b_F_triangles : ByteArray := prog_1_method_7_code
def y_F_triangles : MethodName := ⟨R_F, "triangles", "()I"⟩
abbrev w_F_triangles : List Cond := .code y_F_triangles b_F_triangles 1 (some .int) :: BIG
theorem hd_F_triangles : y_F_triangles.cls ≠ "java/lang/invoke/MethodHandle" ∧ y_F_triangles.cls ≠ "java/lang/invoke/VarHandle" ∧ (parseMethodDescriptor y_F_triangles.desc).map (fun d => d.parameters.length) = some 0 := by decide +kernel
abbrev b_F_triangle : ByteArray := prog_1_method_8_code
def y_F_triangle : MethodName := ⟨R_F, "triangle", "(I)I"⟩
abbrev w_F_triangle : List Cond := .code y_F_triangle b_F_triangle 2 (some .int) :: BIG
theorem hd_F_triangle : y_F_triangle.cls ≠ "java/lang/invoke/MethodHandle" ∧ y_F_triangle.cls ≠ "java/lang/invoke/VarHandle" ∧ (parseMethodDescriptor y_F_triangle.desc).map (fun d => d.parameters.length) = some 1 := by decide +kernel
abbrev b_F_number : ByteArray := prog_1_method_9_code
def y_F_number : MethodName := ⟨R_F, "number", "(III)I"⟩
abbrev w_F_number : List Cond := .code y_F_number b_F_number 6 (some .int) :: BIG
theorem hd_F_number : y_F_number.cls ≠ "java/lang/invoke/MethodHandle" ∧ y_F_number.cls ≠ "java/lang/invoke/VarHandle" ∧ (parseMethodDescriptor y_F_number.desc).map (fun d => d.parameters.length) = some 3 := by decide +kernel
abbrev b_F_across : ByteArray := prog_1_method_10_code
def y_F_across : MethodName := ⟨R_F, "across", "(II)I"⟩
abbrev w_F_across : List Cond := .code y_F_across b_F_across 5 (some .int) :: BIG
theorem hd_F_across : y_F_across.cls ≠ "java/lang/invoke/MethodHandle" ∧ y_F_across.cls ≠ "java/lang/invoke/VarHandle" ∧ (parseMethodDescriptor y_F_across.desc).map (fun d => d.parameters.length) = some 2 := by decide +kernel
abbrev b_F_corners : ByteArray := prog_1_method_11_code
def y_F_corners : MethodName := ⟨R_F, "corners", "(I)I"⟩
abbrev w_F_corners : List Cond := .code y_F_corners b_F_corners 2 (some .int) :: BIG
theorem hd_F_corners : y_F_corners.cls ≠ "java/lang/invoke/MethodHandle" ∧ y_F_corners.cls ≠ "java/lang/invoke/VarHandle" ∧ (parseMethodDescriptor y_F_corners.desc).map (fun d => d.parameters.length) = some 1 := by decide +kernel
abbrev b_F_locate : ByteArray := prog_1_method_12_code
def y_F_locate : MethodName := ⟨R_F, "locate", "(II)I"⟩
abbrev w_F_locate : List Cond := .code y_F_locate b_F_locate 4 (some .int) :: BIG
theorem hd_F_locate : y_F_locate.cls ≠ "java/lang/invoke/MethodHandle" ∧ y_F_locate.cls ≠ "java/lang/invoke/VarHandle" ∧ (parseMethodDescriptor y_F_locate.desc).map (fun d => d.parameters.length) = some 2 := by decide +kernel
abbrev b_F_nearest : ByteArray := prog_1_method_13_code
def y_F_nearest : MethodName := ⟨R_F, "nearest", "(II)I"⟩
abbrev w_F_nearest : List Cond := .code y_F_nearest b_F_nearest 9 (some .int) :: BIG
theorem hd_F_nearest : y_F_nearest.cls ≠ "java/lang/invoke/MethodHandle" ∧ y_F_nearest.cls ≠ "java/lang/invoke/VarHandle" ∧ (parseMethodDescriptor y_F_nearest.desc).map (fun d => d.parameters.length) = some 2 := by decide +kernel
abbrev b_F_neighbours : ByteArray := prog_1_method_14_code
def y_F_neighbours : MethodName := ⟨R_F, "neighbours", "(I)I"⟩
abbrev w_F_neighbours : List Cond := .code y_F_neighbours b_F_neighbours 2 (some .int) :: BIG
theorem hd_F_neighbours : y_F_neighbours.cls ≠ "java/lang/invoke/MethodHandle" ∧ y_F_neighbours.cls ≠ "java/lang/invoke/VarHandle" ∧ (parseMethodDescriptor y_F_neighbours.desc).map (fun d => d.parameters.length) = some 1 := by decide +kernel
abbrev b_F_boundary : ByteArray := prog_1_method_15_code
def y_F_boundary : MethodName := ⟨R_F, "boundary", "(I)I"⟩
abbrev w_F_boundary : List Cond := .code y_F_boundary b_F_boundary 2 (some .int) :: BIG
theorem hd_F_boundary : y_F_boundary.cls ≠ "java/lang/invoke/MethodHandle" ∧ y_F_boundary.cls ≠ "java/lang/invoke/VarHandle" ∧ (parseMethodDescriptor y_F_boundary.desc).map (fun d => d.parameters.length) = some 1 := by decide +kernel
abbrev b_F_inside : ByteArray := prog_1_method_16_code
def y_F_inside : MethodName := ⟨R_F, "inside", "(IIII)I"⟩
abbrev w_F_inside : List Cond := .code y_F_inside b_F_inside 6 (some .int) :: BIG
theorem hd_F_inside : y_F_inside.cls ≠ "java/lang/invoke/MethodHandle" ∧ y_F_inside.cls ≠ "java/lang/invoke/VarHandle" ∧ (parseMethodDescriptor y_F_inside.desc).map (fun d => d.parameters.length) = some 4 := by decide +kernel
abbrev b_F_area : ByteArray := prog_1_method_17_code
def y_F_area : MethodName := ⟨R_F, "area", "()J"⟩
abbrev w_F_area : List Cond := .code y_F_area b_F_area 4 (some .long) :: BIG
theorem hd_F_area : y_F_area.cls ≠ "java/lang/invoke/MethodHandle" ∧ y_F_area.cls ≠ "java/lang/invoke/VarHandle" ∧ (parseMethodDescriptor y_F_area.desc).map (fun d => d.parameters.length) = some 0 := by decide +kernel
abbrev b_F_refresh : ByteArray := prog_1_method_18_code
def y_F_refresh : MethodName := ⟨R_F, "refresh", "()V"⟩
abbrev w_F_refresh : List Cond := .code y_F_refresh b_F_refresh 1 none :: BIG
theorem hd_F_refresh : y_F_refresh.cls ≠ "java/lang/invoke/MethodHandle" ∧ y_F_refresh.cls ≠ "java/lang/invoke/VarHandle" ∧ (parseMethodDescriptor y_F_refresh.desc).map (fun d => d.parameters.length) = some 0 := by decide +kernel
abbrev b_F_covers : ByteArray := prog_1_method_19_code
def y_F_covers : MethodName := ⟨R_F, "covers", "(III)Z"⟩
abbrev w_F_covers : List Cond := .code y_F_covers b_F_covers 7 (some .boolean) :: BIG
theorem hd_F_covers : y_F_covers.cls ≠ "java/lang/invoke/MethodHandle" ∧ y_F_covers.cls ≠ "java/lang/invoke/VarHandle" ∧ (parseMethodDescriptor y_F_covers.desc).map (fun d => d.parameters.length) = some 3 := by decide +kernel
abbrev b_F_inReach : ByteArray := prog_1_method_20_code
def y_F_inReach : MethodName := ⟨R_F, "inReach", "(II)Z"⟩
abbrev w_F_inReach : List Cond := .code y_F_inReach b_F_inReach 2 (some .boolean) :: BIG
theorem hd_F_inReach : y_F_inReach.cls ≠ "java/lang/invoke/MethodHandle" ∧ y_F_inReach.cls ≠ "java/lang/invoke/VarHandle" ∧ (parseMethodDescriptor y_F_inReach.desc).map (fun d => d.parameters.length) = some 2 := by decide +kernel
abbrev b_F_sign : ByteArray := prog_1_method_21_code
def y_F_sign : MethodName := ⟨R_F, "sign", "(J)I"⟩
abbrev w_F_sign : List Cond := .code y_F_sign b_F_sign 2 (some .int) :: BIG
theorem hd_F_sign : y_F_sign.cls ≠ "java/lang/invoke/MethodHandle" ∧ y_F_sign.cls ≠ "java/lang/invoke/VarHandle" ∧ (parseMethodDescriptor y_F_sign.desc).map (fun d => d.parameters.length) = some 1 := by decide +kernel
abbrev b_N_init : ByteArray := prog_6_method_1_code
def y_N_init : MethodName := ⟨R_N, "<init>", "()V"⟩
abbrev w_N_init : List Cond := .code y_N_init b_N_init 1 none :: BIG
theorem hd_N_init : y_N_init.cls ≠ "java/lang/invoke/MethodHandle" ∧ y_N_init.cls ≠ "java/lang/invoke/VarHandle" ∧ (parseMethodDescriptor y_N_init.desc).map (fun d => d.parameters.length) = some 0 := by decide +kernel
abbrev b_N_is : ByteArray := prog_6_method_2_code
def y_N_is : MethodName := ⟨R_N, "is", "(I)Z"⟩
abbrev w_N_is : List Cond := .code y_N_is b_N_is 2 (some .boolean) :: BIG
theorem hd_N_is : y_N_is.cls ≠ "java/lang/invoke/MethodHandle" ∧ y_N_is.cls ≠ "java/lang/invoke/VarHandle" ∧ (parseMethodDescriptor y_N_is.desc).map (fun d => d.parameters.length) = some 1 := by decide +kernel
abbrev b_N_outside : ByteArray := prog_6_method_3_code
def y_N_outside : MethodName := ⟨R_N, "outside", "(II)Z"⟩
abbrev w_N_outside : List Cond := .code y_N_outside b_N_outside 2 (some .boolean) :: BIG
theorem hd_N_outside : y_N_outside.cls ≠ "java/lang/invoke/MethodHandle" ∧ y_N_outside.cls ≠ "java/lang/invoke/VarHandle" ∧ (parseMethodDescriptor y_N_outside.desc).map (fun d => d.parameters.length) = some 2 := by decide +kernel
abbrev b_N_siteAt : ByteArray := prog_6_method_4_code
def y_N_siteAt : MethodName := ⟨R_N, "siteAt", "(II)I"⟩
abbrev w_N_siteAt : List Cond := .code y_N_siteAt b_N_siteAt 5 (some .int) :: BIG
theorem hd_N_siteAt : y_N_siteAt.cls ≠ "java/lang/invoke/MethodHandle" ∧ y_N_siteAt.cls ≠ "java/lang/invoke/VarHandle" ∧ (parseMethodDescriptor y_N_siteAt.desc).map (fun d => d.parameters.length) = some 2 := by decide +kernel
abbrev b_N_insert : ByteArray := prog_6_method_5_code
def y_N_insert : MethodName := ⟨R_N, "insert", "(II)I"⟩
abbrev w_N_insert : List Cond := .code y_N_insert b_N_insert 4 (some .int) :: BIG
theorem hd_N_insert : y_N_insert.cls ≠ "java/lang/invoke/MethodHandle" ∧ y_N_insert.cls ≠ "java/lang/invoke/VarHandle" ∧ (parseMethodDescriptor y_N_insert.desc).map (fun d => d.parameters.length) = some 2 := by decide +kernel
abbrev b_N_remove : ByteArray := prog_6_method_6_code
def y_N_remove : MethodName := ⟨R_N, "remove", "(I)Z"⟩
abbrev w_N_remove : List Cond := .code y_N_remove b_N_remove 2 (some .boolean) :: BIG
theorem hd_N_remove : y_N_remove.cls ≠ "java/lang/invoke/MethodHandle" ∧ y_N_remove.cls ≠ "java/lang/invoke/VarHandle" ∧ (parseMethodDescriptor y_N_remove.desc).map (fun d => d.parameters.length) = some 1 := by decide +kernel
abbrev b_N_move : ByteArray := prog_6_method_7_code
def y_N_move : MethodName := ⟨R_N, "move", "(III)I"⟩
abbrev w_N_move : List Cond := .code y_N_move b_N_move 5 (some .int) :: BIG
theorem hd_N_move : y_N_move.cls ≠ "java/lang/invoke/MethodHandle" ∧ y_N_move.cls ≠ "java/lang/invoke/VarHandle" ∧ (parseMethodDescriptor y_N_move.desc).map (fun d => d.parameters.length) = some 3 := by decide +kernel
abbrev b_N_sites : ByteArray := prog_6_method_8_code
def y_N_sites : MethodName := ⟨R_N, "sites", "()I"⟩
abbrev w_N_sites : List Cond := .code y_N_sites b_N_sites 3 (some .int) :: BIG
theorem hd_N_sites : y_N_sites.cls ≠ "java/lang/invoke/MethodHandle" ∧ y_N_sites.cls ≠ "java/lang/invoke/VarHandle" ∧ (parseMethodDescriptor y_N_sites.desc).map (fun d => d.parameters.length) = some 0 := by decide +kernel
abbrev b_N_coordinate : ByteArray := prog_6_method_9_code
def y_N_coordinate : MethodName := ⟨R_N, "coordinate", "(II)I"⟩
abbrev w_N_coordinate : List Cond := .code y_N_coordinate b_N_coordinate 3 (some .int) :: BIG
theorem hd_N_coordinate : y_N_coordinate.cls ≠ "java/lang/invoke/MethodHandle" ∧ y_N_coordinate.cls ≠ "java/lang/invoke/VarHandle" ∧ (parseMethodDescriptor y_N_coordinate.desc).map (fun d => d.parameters.length) = some 2 := by decide +kernel
abbrev b_N_earlier : ByteArray := prog_6_method_10_code
def y_N_earlier : MethodName := ⟨R_N, "earlier", "(II)Z"⟩
abbrev w_N_earlier : List Cond := .code y_N_earlier b_N_earlier 3 (some .boolean) :: BIG
theorem hd_N_earlier : y_N_earlier.cls ≠ "java/lang/invoke/MethodHandle" ∧ y_N_earlier.cls ≠ "java/lang/invoke/VarHandle" ∧ (parseMethodDescriptor y_N_earlier.desc).map (fun d => d.parameters.length) = some 2 := by decide +kernel
abbrev b_N_sideOf : ByteArray := prog_6_method_11_code
def y_N_sideOf : MethodName := ⟨R_N, "sideOf", "(IIII)I"⟩
abbrev w_N_sideOf : List Cond := .code y_N_sideOf b_N_sideOf 7 (some .int) :: BIG
theorem hd_N_sideOf : y_N_sideOf.cls ≠ "java/lang/invoke/MethodHandle" ∧ y_N_sideOf.cls ≠ "java/lang/invoke/VarHandle" ∧ (parseMethodDescriptor y_N_sideOf.desc).map (fun d => d.parameters.length) = some 4 := by decide +kernel
abbrev b_N_side : ByteArray := prog_6_method_12_code
def y_N_side : MethodName := ⟨R_N, "side", "(III)I"⟩
abbrev w_N_side : List Cond := .code y_N_side b_N_side 4 (some .int) :: BIG
theorem hd_N_side : y_N_side.cls ≠ "java/lang/invoke/MethodHandle" ∧ y_N_side.cls ≠ "java/lang/invoke/VarHandle" ∧ (parseMethodDescriptor y_N_side.desc).map (fun d => d.parameters.length) = some 3 := by decide +kernel
abbrev b_N_low : ByteArray := prog_6_method_13_code
def y_N_low : MethodName := ⟨R_N, "low", "(J)J"⟩
abbrev w_N_low : List Cond := .code y_N_low b_N_low 2 (some .long) :: BIG
theorem hd_N_low : y_N_low.cls ≠ "java/lang/invoke/MethodHandle" ∧ y_N_low.cls ≠ "java/lang/invoke/VarHandle" ∧ (parseMethodDescriptor y_N_low.desc).map (fun d => d.parameters.length) = some 1 := by decide +kernel
abbrev b_N_sign : ByteArray := prog_6_method_14_code
def y_N_sign : MethodName := ⟨R_N, "sign", "(JJJJJJ)I"⟩
abbrev w_N_sign : List Cond := .code y_N_sign b_N_sign 19 (some .int) :: BIG
theorem hd_N_sign : y_N_sign.cls ≠ "java/lang/invoke/MethodHandle" ∧ y_N_sign.cls ≠ "java/lang/invoke/VarHandle" ∧ (parseMethodDescriptor y_N_sign.desc).map (fun d => d.parameters.length) = some 6 := by decide +kernel
abbrev b_N_circle : ByteArray := prog_6_method_15_code
def y_N_circle : MethodName := ⟨R_N, "circle", "(IIII)I"⟩
abbrev w_N_circle : List Cond := .code y_N_circle b_N_circle 17 (some .int) :: BIG
theorem hd_N_circle : y_N_circle.cls ≠ "java/lang/invoke/MethodHandle" ∧ y_N_circle.cls ≠ "java/lang/invoke/VarHandle" ∧ (parseMethodDescriptor y_N_circle.desc).map (fun d => d.parameters.length) = some 4 := by decide +kernel
abbrev b_N_isTriangle : ByteArray := prog_6_method_16_code
def y_N_isTriangle : MethodName := ⟨R_N, "isTriangle", "(III)Z"⟩
abbrev w_N_isTriangle : List Cond := .code y_N_isTriangle b_N_isTriangle 6 (some .boolean) :: BIG
theorem hd_N_isTriangle : y_N_isTriangle.cls ≠ "java/lang/invoke/MethodHandle" ∧ y_N_isTriangle.cls ≠ "java/lang/invoke/VarHandle" ∧ (parseMethodDescriptor y_N_isTriangle.desc).map (fun d => d.parameters.length) = some 3 := by decide +kernel
abbrev b_N_work : ByteArray := prog_6_method_17_code
def y_N_work : MethodName := ⟨R_N, "work", "()V"⟩
abbrev w_N_work : List Cond := .code y_N_work b_N_work 4 none :: BIG
theorem hd_N_work : y_N_work.cls ≠ "java/lang/invoke/MethodHandle" ∧ y_N_work.cls ≠ "java/lang/invoke/VarHandle" ∧ (parseMethodDescriptor y_N_work.desc).map (fun d => d.parameters.length) = some 0 := by decide +kernel
abbrev b_N_triangles : ByteArray := prog_6_method_18_code
def y_N_triangles : MethodName := ⟨R_N, "triangles", "()I"⟩
abbrev w_N_triangles : List Cond := .code y_N_triangles b_N_triangles 1 (some .int) :: BIG
theorem hd_N_triangles : y_N_triangles.cls ≠ "java/lang/invoke/MethodHandle" ∧ y_N_triangles.cls ≠ "java/lang/invoke/VarHandle" ∧ (parseMethodDescriptor y_N_triangles.desc).map (fun d => d.parameters.length) = some 0 := by decide +kernel
abbrev b_N_triangle : ByteArray := prog_6_method_19_code
def y_N_triangle : MethodName := ⟨R_N, "triangle", "(I)I"⟩
abbrev w_N_triangle : List Cond := .code y_N_triangle b_N_triangle 2 (some .int) :: BIG
theorem hd_N_triangle : y_N_triangle.cls ≠ "java/lang/invoke/MethodHandle" ∧ y_N_triangle.cls ≠ "java/lang/invoke/VarHandle" ∧ (parseMethodDescriptor y_N_triangle.desc).map (fun d => d.parameters.length) = some 1 := by decide +kernel
abbrev b_N_has : ByteArray := prog_6_method_20_code
def y_N_has : MethodName := ⟨R_N, "has", "(II)Z"⟩
abbrev w_N_has : List Cond := .code y_N_has b_N_has 3 (some .boolean) :: BIG
theorem hd_N_has : y_N_has.cls ≠ "java/lang/invoke/MethodHandle" ∧ y_N_has.cls ≠ "java/lang/invoke/VarHandle" ∧ (parseMethodDescriptor y_N_has.desc).map (fun d => d.parameters.length) = some 2 := by decide +kernel
abbrev b_N_number : ByteArray := prog_6_method_21_code
def y_N_number : MethodName := ⟨R_N, "number", "(III)I"⟩
abbrev w_N_number : List Cond := .code y_N_number b_N_number 5 (some .int) :: BIG
theorem hd_N_number : y_N_number.cls ≠ "java/lang/invoke/MethodHandle" ∧ y_N_number.cls ≠ "java/lang/invoke/VarHandle" ∧ (parseMethodDescriptor y_N_number.desc).map (fun d => d.parameters.length) = some 3 := by decide +kernel
abbrev b_N_across : ByteArray := prog_6_method_22_code
def y_N_across : MethodName := ⟨R_N, "across", "(II)I"⟩
abbrev w_N_across : List Cond := .code y_N_across b_N_across 6 (some .int) :: BIG
theorem hd_N_across : y_N_across.cls ≠ "java/lang/invoke/MethodHandle" ∧ y_N_across.cls ≠ "java/lang/invoke/VarHandle" ∧ (parseMethodDescriptor y_N_across.desc).map (fun d => d.parameters.length) = some 2 := by decide +kernel
abbrev b_N_corners : ByteArray := prog_6_method_23_code
def y_N_corners : MethodName := ⟨R_N, "corners", "(I)I"⟩
abbrev w_N_corners : List Cond := .code y_N_corners b_N_corners 4 (some .int) :: BIG
theorem hd_N_corners : y_N_corners.cls ≠ "java/lang/invoke/MethodHandle" ∧ y_N_corners.cls ≠ "java/lang/invoke/VarHandle" ∧ (parseMethodDescriptor y_N_corners.desc).map (fun d => d.parameters.length) = some 1 := by decide +kernel
abbrev b_N_locate : ByteArray := prog_6_method_24_code
def y_N_locate : MethodName := ⟨R_N, "locate", "(II)I"⟩
abbrev w_N_locate : List Cond := .code y_N_locate b_N_locate 4 (some .int) :: BIG
theorem hd_N_locate : y_N_locate.cls ≠ "java/lang/invoke/MethodHandle" ∧ y_N_locate.cls ≠ "java/lang/invoke/VarHandle" ∧ (parseMethodDescriptor y_N_locate.desc).map (fun d => d.parameters.length) = some 2 := by decide +kernel
abbrev b_N_nearest : ByteArray := prog_6_method_25_code
def y_N_nearest : MethodName := ⟨R_N, "nearest", "(II)I"⟩
abbrev w_N_nearest : List Cond := .code y_N_nearest b_N_nearest 13 (some .int) :: BIG
theorem hd_N_nearest : y_N_nearest.cls ≠ "java/lang/invoke/MethodHandle" ∧ y_N_nearest.cls ≠ "java/lang/invoke/VarHandle" ∧ (parseMethodDescriptor y_N_nearest.desc).map (fun d => d.parameters.length) = some 2 := by decide +kernel
abbrev b_N_follow : ByteArray := prog_6_method_26_code
def y_N_follow : MethodName := ⟨R_N, "follow", "(III)Z"⟩
abbrev w_N_follow : List Cond := .code y_N_follow b_N_follow 6 (some .boolean) :: BIG
theorem hd_N_follow : y_N_follow.cls ≠ "java/lang/invoke/MethodHandle" ∧ y_N_follow.cls ≠ "java/lang/invoke/VarHandle" ∧ (parseMethodDescriptor y_N_follow.desc).map (fun d => d.parameters.length) = some 3 := by decide +kernel
abbrev b_N_flatNeighbours : ByteArray := prog_6_method_27_code
def y_N_flatNeighbours : MethodName := ⟨R_N, "flatNeighbours", "(I)I"⟩
abbrev w_N_flatNeighbours : List Cond := .code y_N_flatNeighbours b_N_flatNeighbours 5 (some .int) :: BIG
theorem hd_N_flatNeighbours : y_N_flatNeighbours.cls ≠ "java/lang/invoke/MethodHandle" ∧ y_N_flatNeighbours.cls ≠ "java/lang/invoke/VarHandle" ∧ (parseMethodDescriptor y_N_flatNeighbours.desc).map (fun d => d.parameters.length) = some 1 := by decide +kernel
abbrev b_N_link : ByteArray := prog_6_method_28_code
def y_N_link : MethodName := ⟨R_N, "link", "(IIII)I"⟩
abbrev w_N_link : List Cond := .code y_N_link b_N_link 6 (some .int) :: BIG
theorem hd_N_link : y_N_link.cls ≠ "java/lang/invoke/MethodHandle" ∧ y_N_link.cls ≠ "java/lang/invoke/VarHandle" ∧ (parseMethodDescriptor y_N_link.desc).map (fun d => d.parameters.length) = some 4 := by decide +kernel
abbrev b_N_neighbours : ByteArray := prog_6_method_29_code
def y_N_neighbours : MethodName := ⟨R_N, "neighbours", "(I)I"⟩
abbrev w_N_neighbours : List Cond := .code y_N_neighbours b_N_neighbours 4 (some .int) :: BIG
theorem hd_N_neighbours : y_N_neighbours.cls ≠ "java/lang/invoke/MethodHandle" ∧ y_N_neighbours.cls ≠ "java/lang/invoke/VarHandle" ∧ (parseMethodDescriptor y_N_neighbours.desc).map (fun d => d.parameters.length) = some 1 := by decide +kernel
abbrev b_N_earliest : ByteArray := prog_6_method_30_code
def y_N_earliest : MethodName := ⟨R_N, "earliest", "()I"⟩
abbrev w_N_earliest : List Cond := .code y_N_earliest b_N_earliest 3 (some .int) :: BIG
theorem hd_N_earliest : y_N_earliest.cls ≠ "java/lang/invoke/MethodHandle" ∧ y_N_earliest.cls ≠ "java/lang/invoke/VarHandle" ∧ (parseMethodDescriptor y_N_earliest.desc).map (fun d => d.parameters.length) = some 0 := by decide +kernel
abbrev b_N_distance : ByteArray := prog_6_method_31_code
def y_N_distance : MethodName := ⟨R_N, "distance", "(II)J"⟩
abbrev w_N_distance : List Cond := .code y_N_distance b_N_distance 7 (some .long) :: BIG
theorem hd_N_distance : y_N_distance.cls ≠ "java/lang/invoke/MethodHandle" ∧ y_N_distance.cls ≠ "java/lang/invoke/VarHandle" ∧ (parseMethodDescriptor y_N_distance.desc).map (fun d => d.parameters.length) = some 2 := by decide +kernel
abbrev b_N_onward : ByteArray := prog_6_method_32_code
def y_N_onward : MethodName := ⟨R_N, "onward", "(I)I"⟩
abbrev w_N_onward : List Cond := .code y_N_onward b_N_onward 6 (some .int) :: BIG
theorem hd_N_onward : y_N_onward.cls ≠ "java/lang/invoke/MethodHandle" ∧ y_N_onward.cls ≠ "java/lang/invoke/VarHandle" ∧ (parseMethodDescriptor y_N_onward.desc).map (fun d => d.parameters.length) = some 1 := by decide +kernel
abbrev b_N_later : ByteArray := prog_6_method_33_code
def y_N_later : MethodName := ⟨R_N, "later", "(I)I"⟩
abbrev w_N_later : List Cond := .code y_N_later b_N_later 4 (some .int) :: BIG
theorem hd_N_later : y_N_later.cls ≠ "java/lang/invoke/MethodHandle" ∧ y_N_later.cls ≠ "java/lang/invoke/VarHandle" ∧ (parseMethodDescriptor y_N_later.desc).map (fun d => d.parameters.length) = some 1 := by decide +kernel
abbrev b_N_goRound : ByteArray := prog_6_method_34_code
def y_N_goRound : MethodName := ⟨R_N, "goRound", "()V"⟩
abbrev w_N_goRound : List Cond := .code y_N_goRound b_N_goRound 3 none :: BIG
theorem hd_N_goRound : y_N_goRound.cls ≠ "java/lang/invoke/MethodHandle" ∧ y_N_goRound.cls ≠ "java/lang/invoke/VarHandle" ∧ (parseMethodDescriptor y_N_goRound.desc).map (fun d => d.parameters.length) = some 0 := by decide +kernel
abbrev b_N_boundary : ByteArray := prog_6_method_35_code
def y_N_boundary : MethodName := ⟨R_N, "boundary", "(I)I"⟩
abbrev w_N_boundary : List Cond := .code y_N_boundary b_N_boundary 2 (some .int) :: BIG
theorem hd_N_boundary : y_N_boundary.cls ≠ "java/lang/invoke/MethodHandle" ∧ y_N_boundary.cls ≠ "java/lang/invoke/VarHandle" ∧ (parseMethodDescriptor y_N_boundary.desc).map (fun d => d.parameters.length) = some 1 := by decide +kernel
abbrev b_N_inside : ByteArray := prog_6_method_36_code
def y_N_inside : MethodName := ⟨R_N, "inside", "(IIII)I"⟩
abbrev w_N_inside : List Cond := .code y_N_inside b_N_inside 5 (some .int) :: BIG
theorem hd_N_inside : y_N_inside.cls ≠ "java/lang/invoke/MethodHandle" ∧ y_N_inside.cls ≠ "java/lang/invoke/VarHandle" ∧ (parseMethodDescriptor y_N_inside.desc).map (fun d => d.parameters.length) = some 4 := by decide +kernel
abbrev b_N_area : ByteArray := prog_6_method_37_code
def y_N_area : MethodName := ⟨R_N, "area", "()J"⟩
abbrev w_N_area : List Cond := .code y_N_area b_N_area 6 (some .long) :: BIG
theorem hd_N_area : y_N_area.cls ≠ "java/lang/invoke/MethodHandle" ∧ y_N_area.cls ≠ "java/lang/invoke/VarHandle" ∧ (parseMethodDescriptor y_N_area.desc).map (fun d => d.parameters.length) = some 0 := by decide +kernel
abbrev b_M_init : ByteArray := prog_2_method_1_code
def y_M_init : MethodName := ⟨R_M, "<init>", "()V"⟩
abbrev w_M_init : List Cond := .code y_M_init b_M_init 1 none :: BIG
theorem hd_M_init : y_M_init.cls ≠ "java/lang/invoke/MethodHandle" ∧ y_M_init.cls ≠ "java/lang/invoke/VarHandle" ∧ (parseMethodDescriptor y_M_init.desc).map (fun d => d.parameters.length) = some 0 := by decide +kernel
abbrev b_M_size : ByteArray := prog_2_method_2_code
def y_M_size : MethodName := ⟨R_M, "size", "()I"⟩
abbrev w_M_size : List Cond := .code y_M_size b_M_size 1 (some .int) :: BIG
theorem hd_M_size : y_M_size.cls ≠ "java/lang/invoke/MethodHandle" ∧ y_M_size.cls ≠ "java/lang/invoke/VarHandle" ∧ (parseMethodDescriptor y_M_size.desc).map (fun d => d.parameters.length) = some 0 := by decide +kernel
abbrev b_M_has : ByteArray := prog_2_method_3_code
def y_M_has : MethodName := ⟨R_M, "has", "(I)Z"⟩
abbrev w_M_has : List Cond := .code y_M_has b_M_has 2 (some .boolean) :: BIG
theorem hd_M_has : y_M_has.cls ≠ "java/lang/invoke/MethodHandle" ∧ y_M_has.cls ≠ "java/lang/invoke/VarHandle" ∧ (parseMethodDescriptor y_M_has.desc).map (fun d => d.parameters.length) = some 1 := by decide +kernel
abbrev b_M_corner : ByteArray := prog_2_method_4_code
def y_M_corner : MethodName := ⟨R_M, "corner", "(II)I"⟩
abbrev w_M_corner : List Cond := .code y_M_corner b_M_corner 3 (some .int) :: BIG
theorem hd_M_corner : y_M_corner.cls ≠ "java/lang/invoke/MethodHandle" ∧ y_M_corner.cls ≠ "java/lang/invoke/VarHandle" ∧ (parseMethodDescriptor y_M_corner.desc).map (fun d => d.parameters.length) = some 2 := by decide +kernel
abbrev b_M_cornerSet : ByteArray := prog_2_method_5_code
def y_M_cornerSet : MethodName := ⟨R_M, "cornerSet", "(I)I"⟩
abbrev w_M_cornerSet : List Cond := .code y_M_cornerSet b_M_cornerSet 2 (some .int) :: BIG
theorem hd_M_cornerSet : y_M_cornerSet.cls ≠ "java/lang/invoke/MethodHandle" ∧ y_M_cornerSet.cls ≠ "java/lang/invoke/VarHandle" ∧ (parseMethodDescriptor y_M_cornerSet.desc).map (fun d => d.parameters.length) = some 1 := by decide +kernel
abbrev b_M_faceSize : ByteArray := prog_2_method_6_code
def y_M_faceSize : MethodName := ⟨R_M, "faceSize", "(I)I"⟩
abbrev w_M_faceSize : List Cond := .code y_M_faceSize b_M_faceSize 2 (some .int) :: BIG
theorem hd_M_faceSize : y_M_faceSize.cls ≠ "java/lang/invoke/MethodHandle" ∧ y_M_faceSize.cls ≠ "java/lang/invoke/VarHandle" ∧ (parseMethodDescriptor y_M_faceSize.desc).map (fun d => d.parameters.length) = some 1 := by decide +kernel
abbrev b_M_linkedTo : ByteArray := prog_2_method_7_code
def y_M_linkedTo : MethodName := ⟨R_M, "linkedTo", "(I)I"⟩
abbrev w_M_linkedTo : List Cond := .code y_M_linkedTo b_M_linkedTo 2 (some .int) :: BIG
theorem hd_M_linkedTo : y_M_linkedTo.cls ≠ "java/lang/invoke/MethodHandle" ∧ y_M_linkedTo.cls ≠ "java/lang/invoke/VarHandle" ∧ (parseMethodDescriptor y_M_linkedTo.desc).map (fun d => d.parameters.length) = some 1 := by decide +kernel
abbrev b_M_begin : ByteArray := prog_2_method_8_code
def y_M_begin : MethodName := ⟨R_M, "begin", "(LFannedSites$Outline;)V"⟩
abbrev w_M_begin : List Cond := .code y_M_begin b_M_begin 2 none :: BIG
theorem hd_M_begin : y_M_begin.cls ≠ "java/lang/invoke/MethodHandle" ∧ y_M_begin.cls ≠ "java/lang/invoke/VarHandle" ∧ (parseMethodDescriptor y_M_begin.desc).map (fun d => d.parameters.length) = some 1 := by decide +kernel
abbrev b_M_linkLine : ByteArray := prog_2_method_9_code
def y_M_linkLine : MethodName := ⟨R_M, "linkLine", "(LFannedSites$Outline;)V"⟩
abbrev w_M_linkLine : List Cond := .code y_M_linkLine b_M_linkLine 3 none :: BIG
theorem hd_M_linkLine : y_M_linkLine.cls ≠ "java/lang/invoke/MethodHandle" ∧ y_M_linkLine.cls ≠ "java/lang/invoke/VarHandle" ∧ (parseMethodDescriptor y_M_linkLine.desc).map (fun d => d.parameters.length) = some 1 := by decide +kernel
abbrev b_M_awaitOutline : ByteArray := prog_2_method_10_code
def y_M_awaitOutline : MethodName := ⟨R_M, "awaitOutline", "(LFannedSites$Outline;)V"⟩
abbrev w_M_awaitOutline : List Cond := .code y_M_awaitOutline b_M_awaitOutline 5 none :: BIG
theorem hd_M_awaitOutline : y_M_awaitOutline.cls ≠ "java/lang/invoke/MethodHandle" ∧ y_M_awaitOutline.cls ≠ "java/lang/invoke/VarHandle" ∧ (parseMethodDescriptor y_M_awaitOutline.desc).map (fun d => d.parameters.length) = some 1 := by decide +kernel
abbrev b_M_spread : ByteArray := prog_2_method_11_code
def y_M_spread : MethodName := ⟨R_M, "spread", "(LFannedSites$Points;)V"⟩
abbrev w_M_spread : List Cond := .code y_M_spread b_M_spread 6 none :: BIG
theorem hd_M_spread : y_M_spread.cls ≠ "java/lang/invoke/MethodHandle" ∧ y_M_spread.cls ≠ "java/lang/invoke/VarHandle" ∧ (parseMethodDescriptor y_M_spread.desc).map (fun d => d.parameters.length) = some 1 := by decide +kernel
abbrev b_M_gatherRing : ByteArray := prog_2_method_12_code
def y_M_gatherRing : MethodName := ⟨R_M, "gatherRing", "(LFannedSites$Points;III)V"⟩
abbrev w_M_gatherRing : List Cond := .code y_M_gatherRing b_M_gatherRing 7 none :: BIG
theorem hd_M_gatherRing : y_M_gatherRing.cls ≠ "java/lang/invoke/MethodHandle" ∧ y_M_gatherRing.cls ≠ "java/lang/invoke/VarHandle" ∧ (parseMethodDescriptor y_M_gatherRing.desc).map (fun d => d.parameters.length) = some 4 := by decide +kernel
abbrev b_M_apexOver : ByteArray := prog_2_method_13_code
def y_M_apexOver : MethodName := ⟨R_M, "apexOver", "(LFannedSites$Points;II)I"⟩
abbrev w_M_apexOver : List Cond := .code y_M_apexOver b_M_apexOver 6 (some .int) :: BIG
theorem hd_M_apexOver : y_M_apexOver.cls ≠ "java/lang/invoke/MethodHandle" ∧ y_M_apexOver.cls ≠ "java/lang/invoke/VarHandle" ∧ (parseMethodDescriptor y_M_apexOver.desc).map (fun d => d.parameters.length) = some 3 := by decide +kernel
abbrev b_M_addToRing : ByteArray := prog_2_method_14_code
def y_M_addToRing : MethodName := ⟨R_M, "addToRing", "(LFannedSites$Points;I)V"⟩
abbrev w_M_addToRing : List Cond := .code y_M_addToRing b_M_addToRing 4 none :: BIG
theorem hd_M_addToRing : y_M_addToRing.cls ≠ "java/lang/invoke/MethodHandle" ∧ y_M_addToRing.cls ≠ "java/lang/invoke/VarHandle" ∧ (parseMethodDescriptor y_M_addToRing.desc).map (fun d => d.parameters.length) = some 2 := by decide +kernel
abbrev b_M_addFace : ByteArray := prog_2_method_15_code
def y_M_addFace : MethodName := ⟨R_M, "addFace", "()V"⟩
abbrev w_M_addFace : List Cond := .code y_M_addFace b_M_addFace 4 none :: BIG
theorem hd_M_addFace : y_M_addFace.cls ≠ "java/lang/invoke/MethodHandle" ∧ y_M_addFace.cls ≠ "java/lang/invoke/VarHandle" ∧ (parseMethodDescriptor y_M_addFace.desc).map (fun d => d.parameters.length) = some 0 := by decide +kernel
abbrev b_M_addTriangle : ByteArray := prog_2_method_16_code
def y_M_addTriangle : MethodName := ⟨R_M, "addTriangle", "(III)V"⟩
abbrev w_M_addTriangle : List Cond := .code y_M_addTriangle b_M_addTriangle 6 none :: BIG
theorem hd_M_addTriangle : y_M_addTriangle.cls ≠ "java/lang/invoke/MethodHandle" ∧ y_M_addTriangle.cls ≠ "java/lang/invoke/VarHandle" ∧ (parseMethodDescriptor y_M_addTriangle.desc).map (fun d => d.parameters.length) = some 3 := by decide +kernel
abbrev b_M_link : ByteArray := prog_2_method_17_code
def y_M_link : MethodName := ⟨R_M, "link", "(II)V"⟩
abbrev w_M_link : List Cond := .code y_M_link b_M_link 3 none :: BIG
theorem hd_M_link : y_M_link.cls ≠ "java/lang/invoke/MethodHandle" ∧ y_M_link.cls ≠ "java/lang/invoke/VarHandle" ∧ (parseMethodDescriptor y_M_link.desc).map (fun d => d.parameters.length) = some 2 := by decide +kernel
abbrev b_M_isLinked : ByteArray := prog_2_method_18_code
def y_M_isLinked : MethodName := ⟨R_M, "isLinked", "(II)Z"⟩
abbrev w_M_isLinked : List Cond := .code y_M_isLinked b_M_isLinked 3 (some .boolean) :: BIG
theorem hd_M_isLinked : y_M_isLinked.cls ≠ "java/lang/invoke/MethodHandle" ∧ y_M_isLinked.cls ≠ "java/lang/invoke/VarHandle" ∧ (parseMethodDescriptor y_M_isLinked.desc).map (fun d => d.parameters.length) = some 2 := by decide +kernel
abbrev b_M_await : ByteArray := prog_2_method_19_code
def y_M_await : MethodName := ⟨R_M, "await", "(II)V"⟩
abbrev w_M_await : List Cond := .code y_M_await b_M_await 3 none :: BIG
theorem hd_M_await : y_M_await.cls ≠ "java/lang/invoke/MethodHandle" ∧ y_M_await.cls ≠ "java/lang/invoke/VarHandle" ∧ (parseMethodDescriptor y_M_await.desc).map (fun d => d.parameters.length) = some 2 := by decide +kernel
abbrev b_O_init : ByteArray := prog_3_method_1_code
def y_O_init : MethodName := ⟨R_O, "<init>", "()V"⟩
abbrev w_O_init : List Cond := .code y_O_init b_O_init 1 none :: BIG
theorem hd_O_init : y_O_init.cls ≠ "java/lang/invoke/MethodHandle" ∧ y_O_init.cls ≠ "java/lang/invoke/VarHandle" ∧ (parseMethodDescriptor y_O_init.desc).map (fun d => d.parameters.length) = some 0 := by decide +kernel
abbrev b_O_size : ByteArray := prog_3_method_2_code
def y_O_size : MethodName := ⟨R_O, "size", "()I"⟩
abbrev w_O_size : List Cond := .code y_O_size b_O_size 1 (some .int) :: BIG
theorem hd_O_size : y_O_size.cls ≠ "java/lang/invoke/MethodHandle" ∧ y_O_size.cls ≠ "java/lang/invoke/VarHandle" ∧ (parseMethodDescriptor y_O_size.desc).map (fun d => d.parameters.length) = some 0 := by decide +kernel
abbrev b_O_isFlat : ByteArray := prog_3_method_3_code
def y_O_isFlat : MethodName := ⟨R_O, "isFlat", "()Z"⟩
abbrev w_O_isFlat : List Cond := .code y_O_isFlat b_O_isFlat 1 (some .boolean) :: BIG
theorem hd_O_isFlat : y_O_isFlat.cls ≠ "java/lang/invoke/MethodHandle" ∧ y_O_isFlat.cls ≠ "java/lang/invoke/VarHandle" ∧ (parseMethodDescriptor y_O_isFlat.desc).map (fun d => d.parameters.length) = some 0 := by decide +kernel
abbrev b_O_at : ByteArray := prog_3_method_4_code
def y_O_at : MethodName := ⟨R_O, "at", "(I)I"⟩
abbrev w_O_at : List Cond := .code y_O_at b_O_at 2 (some .int) :: BIG
theorem hd_O_at : y_O_at.cls ≠ "java/lang/invoke/MethodHandle" ∧ y_O_at.cls ≠ "java/lang/invoke/VarHandle" ∧ (parseMethodDescriptor y_O_at.desc).map (fun d => d.parameters.length) = some 1 := by decide +kernel
abbrev b_O_trace : ByteArray := prog_3_method_5_code
def y_O_trace : MethodName := ⟨R_O, "trace", "(LFannedSites$Points;)V"⟩
abbrev w_O_trace : List Cond := .code y_O_trace b_O_trace 4 none :: BIG
theorem hd_O_trace : y_O_trace.cls ≠ "java/lang/invoke/MethodHandle" ∧ y_O_trace.cls ≠ "java/lang/invoke/VarHandle" ∧ (parseMethodDescriptor y_O_trace.desc).map (fun d => d.parameters.length) = some 1 := by decide +kernel
abbrev b_O_allOnOneLine : ByteArray := prog_3_method_6_code
def y_O_allOnOneLine : MethodName := ⟨R_O, "allOnOneLine", "(LFannedSites$Points;)Z"⟩
abbrev w_O_allOnOneLine : List Cond := .code y_O_allOnOneLine b_O_allOnOneLine 2 (some .boolean) :: BIG
theorem hd_O_allOnOneLine : y_O_allOnOneLine.cls ≠ "java/lang/invoke/MethodHandle" ∧ y_O_allOnOneLine.cls ≠ "java/lang/invoke/VarHandle" ∧ (parseMethodDescriptor y_O_allOnOneLine.desc).map (fun d => d.parameters.length) = some 1 := by decide +kernel
abbrev b_O_push : ByteArray := prog_3_method_7_code
def y_O_push : MethodName := ⟨R_O, "push", "(LFannedSites$Points;I)V"⟩
abbrev w_O_push : List Cond := .code y_O_push b_O_push 3 none :: BIG
theorem hd_O_push : y_O_push.cls ≠ "java/lang/invoke/MethodHandle" ∧ y_O_push.cls ≠ "java/lang/invoke/VarHandle" ∧ (parseMethodDescriptor y_O_push.desc).map (fun d => d.parameters.length) = some 2 := by decide +kernel
abbrev b_P_init : ByteArray := prog_4_method_1_code
def y_P_init : MethodName := ⟨R_P, "<init>", "()V"⟩
abbrev w_P_init : List Cond := .code y_P_init b_P_init 1 none :: BIG
theorem hd_P_init : y_P_init.cls ≠ "java/lang/invoke/MethodHandle" ∧ y_P_init.cls ≠ "java/lang/invoke/VarHandle" ∧ (parseMethodDescriptor y_P_init.desc).map (fun d => d.parameters.length) = some 0 := by decide +kernel
abbrev b_P_size : ByteArray := prog_4_method_2_code
def y_P_size : MethodName := ⟨R_P, "size", "()I"⟩
abbrev w_P_size : List Cond := .code y_P_size b_P_size 1 (some .int) :: BIG
theorem hd_P_size : y_P_size.cls ≠ "java/lang/invoke/MethodHandle" ∧ y_P_size.cls ≠ "java/lang/invoke/VarHandle" ∧ (parseMethodDescriptor y_P_size.desc).map (fun d => d.parameters.length) = some 0 := by decide +kernel
abbrev b_P_has : ByteArray := prog_4_method_3_code
def y_P_has : MethodName := ⟨R_P, "has", "(I)Z"⟩
abbrev w_P_has : List Cond := .code y_P_has b_P_has 2 (some .boolean) :: BIG
theorem hd_P_has : y_P_has.cls ≠ "java/lang/invoke/MethodHandle" ∧ y_P_has.cls ≠ "java/lang/invoke/VarHandle" ∧ (parseMethodDescriptor y_P_has.desc).map (fun d => d.parameters.length) = some 1 := by decide +kernel
abbrev b_P_x : ByteArray := prog_4_method_4_code
def y_P_x : MethodName := ⟨R_P, "x", "(I)I"⟩
abbrev w_P_x : List Cond := .code y_P_x b_P_x 2 (some .int) :: BIG
theorem hd_P_x : y_P_x.cls ≠ "java/lang/invoke/MethodHandle" ∧ y_P_x.cls ≠ "java/lang/invoke/VarHandle" ∧ (parseMethodDescriptor y_P_x.desc).map (fun d => d.parameters.length) = some 1 := by decide +kernel
abbrev b_P_y : ByteArray := prog_4_method_5_code
def y_P_y : MethodName := ⟨R_P, "y", "(I)I"⟩
abbrev w_P_y : List Cond := .code y_P_y b_P_y 2 (some .int) :: BIG
theorem hd_P_y : y_P_y.cls ≠ "java/lang/invoke/MethodHandle" ∧ y_P_y.cls ≠ "java/lang/invoke/VarHandle" ∧ (parseMethodDescriptor y_P_y.desc).map (fun d => d.parameters.length) = some 1 := by decide +kernel
abbrev b_P_inOrder : ByteArray := prog_4_method_6_code
def y_P_inOrder : MethodName := ⟨R_P, "inOrder", "(I)I"⟩
abbrev w_P_inOrder : List Cond := .code y_P_inOrder b_P_inOrder 2 (some .int) :: BIG
theorem hd_P_inOrder : y_P_inOrder.cls ≠ "java/lang/invoke/MethodHandle" ∧ y_P_inOrder.cls ≠ "java/lang/invoke/VarHandle" ∧ (parseMethodDescriptor y_P_inOrder.desc).map (fun d => d.parameters.length) = some 1 := by decide +kernel
abbrev b_P_slotAt : ByteArray := prog_4_method_7_code
def y_P_slotAt : MethodName := ⟨R_P, "slotAt", "(II)I"⟩
abbrev w_P_slotAt : List Cond := .code y_P_slotAt b_P_slotAt 4 (some .int) :: BIG
theorem hd_P_slotAt : y_P_slotAt.cls ≠ "java/lang/invoke/MethodHandle" ∧ y_P_slotAt.cls ≠ "java/lang/invoke/VarHandle" ∧ (parseMethodDescriptor y_P_slotAt.desc).map (fun d => d.parameters.length) = some 2 := by decide +kernel
abbrev b_P_freeSlot : ByteArray := prog_4_method_8_code
def y_P_freeSlot : MethodName := ⟨R_P, "freeSlot", "()I"⟩
abbrev w_P_freeSlot : List Cond := .code y_P_freeSlot b_P_freeSlot 2 (some .int) :: BIG
theorem hd_P_freeSlot : y_P_freeSlot.cls ≠ "java/lang/invoke/MethodHandle" ∧ y_P_freeSlot.cls ≠ "java/lang/invoke/VarHandle" ∧ (parseMethodDescriptor y_P_freeSlot.desc).map (fun d => d.parameters.length) = some 0 := by decide +kernel
abbrev b_P_put : ByteArray := prog_4_method_9_code
def y_P_put : MethodName := ⟨R_P, "put", "(III)V"⟩
abbrev w_P_put : List Cond := .code y_P_put b_P_put 5 none :: BIG
theorem hd_P_put : y_P_put.cls ≠ "java/lang/invoke/MethodHandle" ∧ y_P_put.cls ≠ "java/lang/invoke/VarHandle" ∧ (parseMethodDescriptor y_P_put.desc).map (fun d => d.parameters.length) = some 3 := by decide +kernel
abbrev b_P_drop : ByteArray := prog_4_method_10_code
def y_P_drop : MethodName := ⟨R_P, "drop", "(I)V"⟩
abbrev w_P_drop : List Cond := .code y_P_drop b_P_drop 4 none :: BIG
theorem hd_P_drop : y_P_drop.cls ≠ "java/lang/invoke/MethodHandle" ∧ y_P_drop.cls ≠ "java/lang/invoke/VarHandle" ∧ (parseMethodDescriptor y_P_drop.desc).map (fun d => d.parameters.length) = some 1 := by decide +kernel
abbrev b_P_isEarlier : ByteArray := prog_4_method_11_code
def y_P_isEarlier : MethodName := ⟨R_P, "isEarlier", "(II)Z"⟩
abbrev w_P_isEarlier : List Cond := .code y_P_isEarlier b_P_isEarlier 3 (some .boolean) :: BIG
theorem hd_P_isEarlier : y_P_isEarlier.cls ≠ "java/lang/invoke/MethodHandle" ∧ y_P_isEarlier.cls ≠ "java/lang/invoke/VarHandle" ∧ (parseMethodDescriptor y_P_isEarlier.desc).map (fun d => d.parameters.length) = some 2 := by decide +kernel
abbrev b_P_squaredDistance : ByteArray := prog_4_method_12_code
def y_P_squaredDistance : MethodName := ⟨R_P, "squaredDistance", "(III)J"⟩
abbrev w_P_squaredDistance : List Cond := .code y_P_squaredDistance b_P_squaredDistance 8 (some .long) :: BIG
theorem hd_P_squaredDistance : y_P_squaredDistance.cls ≠ "java/lang/invoke/MethodHandle" ∧ y_P_squaredDistance.cls ≠ "java/lang/invoke/VarHandle" ∧ (parseMethodDescriptor y_P_squaredDistance.desc).map (fun d => d.parameters.length) = some 3 := by decide +kernel
abbrev b_P_crossTo : ByteArray := prog_4_method_13_code
def y_P_crossTo : MethodName := ⟨R_P, "crossTo", "(IIII)J"⟩
abbrev w_P_crossTo : List Cond := .code y_P_crossTo b_P_crossTo 13 (some .long) :: BIG
theorem hd_P_crossTo : y_P_crossTo.cls ≠ "java/lang/invoke/MethodHandle" ∧ y_P_crossTo.cls ≠ "java/lang/invoke/VarHandle" ∧ (parseMethodDescriptor y_P_crossTo.desc).map (fun d => d.parameters.length) = some 4 := by decide +kernel
abbrev b_P_doubleArea : ByteArray := prog_4_method_14_code
def y_P_doubleArea : MethodName := ⟨R_P, "doubleArea", "(III)J"⟩
abbrev w_P_doubleArea : List Cond := .code y_P_doubleArea b_P_doubleArea 4 (some .long) :: BIG
theorem hd_P_doubleArea : y_P_doubleArea.cls ≠ "java/lang/invoke/MethodHandle" ∧ y_P_doubleArea.cls ≠ "java/lang/invoke/VarHandle" ∧ (parseMethodDescriptor y_P_doubleArea.desc).map (fun d => d.parameters.length) = some 3 := by decide +kernel
abbrev b_P_side : ByteArray := prog_4_method_15_code
def y_P_side : MethodName := ⟨R_P, "side", "(III)I"⟩
abbrev w_P_side : List Cond := .code y_P_side b_P_side 4 (some .int) :: BIG
theorem hd_P_side : y_P_side.cls ≠ "java/lang/invoke/MethodHandle" ∧ y_P_side.cls ≠ "java/lang/invoke/VarHandle" ∧ (parseMethodDescriptor y_P_side.desc).map (fun d => d.parameters.length) = some 3 := by decide +kernel
abbrev b_P_circleSide : ByteArray := prog_4_method_16_code
def y_P_circleSide : MethodName := ⟨R_P, "circleSide", "(IIII)I"⟩
abbrev w_P_circleSide : List Cond := .code y_P_circleSide b_P_circleSide 17 (some .int) :: BIG
theorem hd_P_circleSide : y_P_circleSide.cls ≠ "java/lang/invoke/MethodHandle" ∧ y_P_circleSide.cls ≠ "java/lang/invoke/VarHandle" ∧ (parseMethodDescriptor y_P_circleSide.desc).map (fun d => d.parameters.length) = some 4 := by decide +kernel
abbrev b_P_signOfProducts : ByteArray := prog_4_method_17_code
def y_P_signOfProducts : MethodName := ⟨R_P, "signOfProducts", "(JJJJJJ)I"⟩
abbrev w_P_signOfProducts : List Cond := .code y_P_signOfProducts b_P_signOfProducts 18 (some .int) :: BIG
theorem hd_P_signOfProducts : y_P_signOfProducts.cls ≠ "java/lang/invoke/MethodHandle" ∧ y_P_signOfProducts.cls ≠ "java/lang/invoke/VarHandle" ∧ (parseMethodDescriptor y_P_signOfProducts.desc).map (fun d => d.parameters.length) = some 6 := by decide +kernel
abbrev b_L_law : ByteArray := code
def y_L_law : MethodName := ⟨R_L, "law", "([I)Z"⟩
theorem hd_L_law : y_L_law.cls ≠ "java/lang/invoke/MethodHandle" ∧ y_L_law.cls ≠ "java/lang/invoke/VarHandle" ∧ (parseMethodDescriptor y_L_law.desc).map (fun d => d.parameters.length) = some 1 := by decide +kernel
abbrev b_J_fill : ByteArray := prog_7_method_103_code
def y_J_fill : MethodName := ⟨R_J, "fill", "([II)V"⟩
abbrev w_J_fill : List Cond := .code y_J_fill b_J_fill 4 none :: BIG
theorem hd_J_fill : y_J_fill.cls ≠ "java/lang/invoke/MethodHandle" ∧ y_J_fill.cls ≠ "java/lang/invoke/VarHandle" ∧ (parseMethodDescriptor y_J_fill.desc).map (fun d => d.parameters.length) = some 2 := by decide +kernel
end
section
theorem in_F : ∀ w ∈ ws_F, w ∈ BIG := by decide +kernel
theorem in_P : ∀ w ∈ ws_P, w ∈ BIG := by decide +kernel
theorem in_O : ∀ w ∈ ws_O, w ∈ BIG := by decide +kernel
theorem in_M : ∀ w ∈ ws_M, w ∈ BIG := by decide +kernel
theorem in_N : ∀ w ∈ ws_N, w ∈ BIG := by decide +kernel
theorem bp_0 : (.selects "FannedSites$Points" ⟨"FannedSites$Points", "isEarlier", "(II)Z"⟩ ⟨"FannedSites$Points", "isEarlier", "(II)Z"⟩ : Cond) ∈ BIG := big_pr 0 (by decide +kernel) (by decide +kernel)
theorem bp_1 : (.selects "FannedSites" ⟨"FannedSites", "refresh", "()V"⟩ ⟨"FannedSites", "refresh", "()V"⟩ : Cond) ∈ BIG := big_pr 1 (by decide +kernel) (by decide +kernel)
theorem bp_2 : (.selects "FannedSites$Outline" ⟨"FannedSites$Outline", "push", "(LFannedSites$Points;I)V"⟩ ⟨"FannedSites$Outline", "push", "(LFannedSites$Points;I)V"⟩ : Cond) ∈ BIG := big_pr 2 (by decide +kernel) (by decide +kernel)
theorem bp_3 : (.selects "FannedSites$Mesh" ⟨"FannedSites$Mesh", "linkLine", "(LFannedSites$Outline;)V"⟩ ⟨"FannedSites$Mesh", "linkLine", "(LFannedSites$Outline;)V"⟩ : Cond) ∈ BIG := big_pr 3 (by decide +kernel) (by decide +kernel)
theorem bp_4 : (.selects "FannedSites$Mesh" ⟨"FannedSites$Mesh", "link", "(II)V"⟩ ⟨"FannedSites$Mesh", "link", "(II)V"⟩ : Cond) ∈ BIG := big_pr 4 (by decide +kernel) (by decide +kernel)
theorem bp_5 : (.selects "FannedSites$Mesh" ⟨"FannedSites$Mesh", "awaitOutline", "(LFannedSites$Outline;)V"⟩ ⟨"FannedSites$Mesh", "awaitOutline", "(LFannedSites$Outline;)V"⟩ : Cond) ∈ BIG := big_pr 5 (by decide +kernel) (by decide +kernel)
theorem bp_6 : (.selects "FannedSites$Mesh" ⟨"FannedSites$Mesh", "await", "(II)V"⟩ ⟨"FannedSites$Mesh", "await", "(II)V"⟩ : Cond) ∈ BIG := big_pr 6 (by decide +kernel) (by decide +kernel)
theorem bp_7 : (.selects "FannedSites$Mesh" ⟨"FannedSites$Mesh", "isLinked", "(II)Z"⟩ ⟨"FannedSites$Mesh", "isLinked", "(II)Z"⟩ : Cond) ∈ BIG := big_pr 7 (by decide +kernel) (by decide +kernel)
theorem bp_8 : (.selects "FannedSites$Mesh" ⟨"FannedSites$Mesh", "gatherRing", "(LFannedSites$Points;III)V"⟩ ⟨"FannedSites$Mesh", "gatherRing", "(LFannedSites$Points;III)V"⟩ : Cond) ∈ BIG := big_pr 8 (by decide +kernel) (by decide +kernel)
theorem bp_9 : (.selects "FannedSites$Mesh" ⟨"FannedSites$Mesh", "addToRing", "(LFannedSites$Points;I)V"⟩ ⟨"FannedSites$Mesh", "addToRing", "(LFannedSites$Points;I)V"⟩ : Cond) ∈ BIG := big_pr 9 (by decide +kernel) (by decide +kernel)
theorem bp_10 : (.selects "FannedSites$Mesh" ⟨"FannedSites$Mesh", "addFace", "()V"⟩ ⟨"FannedSites$Mesh", "addFace", "()V"⟩ : Cond) ∈ BIG := big_pr 10 (by decide +kernel) (by decide +kernel)
theorem bp_11 : (.selects "FannedSites$Mesh" ⟨"FannedSites$Mesh", "addTriangle", "(III)V"⟩ ⟨"FannedSites$Mesh", "addTriangle", "(III)V"⟩ : Cond) ∈ BIG := big_pr 11 (by decide +kernel) (by decide +kernel)
theorem bp_12 : (.selects "FannedSites" ⟨"FannedSites", "covers", "(III)Z"⟩ ⟨"FannedSites", "covers", "(III)Z"⟩ : Cond) ∈ BIG := big_pr 12 (by decide +kernel) (by decide +kernel)
theorem bp_13 : (.selects "FannedSitesModel" ⟨"FannedSitesModel", "siteAt", "(II)I"⟩ ⟨"FannedSitesModel", "siteAt", "(II)I"⟩ : Cond) ∈ BIG := big_pr 13 (by decide +kernel) (by decide +kernel)
theorem bp_14 : (.selects "FannedSitesModel" ⟨"FannedSitesModel", "is", "(I)Z"⟩ ⟨"FannedSitesModel", "is", "(I)Z"⟩ : Cond) ∈ BIG := big_pr 14 (by decide +kernel) (by decide +kernel)
theorem bp_15 : (.selects "FannedSitesModel" ⟨"FannedSitesModel", "work", "()V"⟩ ⟨"FannedSitesModel", "work", "()V"⟩ : Cond) ∈ BIG := big_pr 15 (by decide +kernel) (by decide +kernel)
theorem bp_16 : (.selects "FannedSitesModel" ⟨"FannedSitesModel", "isTriangle", "(III)Z"⟩ ⟨"FannedSitesModel", "isTriangle", "(III)Z"⟩ : Cond) ∈ BIG := big_pr 16 (by decide +kernel) (by decide +kernel)
theorem bp_17 : (.selects "FannedSitesModel" ⟨"FannedSitesModel", "side", "(III)I"⟩ ⟨"FannedSitesModel", "side", "(III)I"⟩ : Cond) ∈ BIG := big_pr 17 (by decide +kernel) (by decide +kernel)
theorem bp_18 : (.selects "FannedSitesModel" ⟨"FannedSitesModel", "sideOf", "(IIII)I"⟩ ⟨"FannedSitesModel", "sideOf", "(IIII)I"⟩ : Cond) ∈ BIG := big_pr 18 (by decide +kernel) (by decide +kernel)
theorem bp_19 : (.selects "FannedSitesModel" ⟨"FannedSitesModel", "earlier", "(II)Z"⟩ ⟨"FannedSitesModel", "earlier", "(II)Z"⟩ : Cond) ∈ BIG := big_pr 19 (by decide +kernel) (by decide +kernel)
theorem bp_20 : (.selects "FannedSitesModel" ⟨"FannedSitesModel", "circle", "(IIII)I"⟩ ⟨"FannedSitesModel", "circle", "(IIII)I"⟩ : Cond) ∈ BIG := big_pr 20 (by decide +kernel) (by decide +kernel)
theorem bp_21 : (.selects "FannedSitesModel" ⟨"FannedSitesModel", "has", "(II)Z"⟩ ⟨"FannedSitesModel", "has", "(II)Z"⟩ : Cond) ∈ BIG := big_pr 21 (by decide +kernel) (by decide +kernel)
theorem bp_22 : (.selects "FannedSitesModel" ⟨"FannedSitesModel", "flatNeighbours", "(I)I"⟩ ⟨"FannedSitesModel", "flatNeighbours", "(I)I"⟩ : Cond) ∈ BIG := big_pr 22 (by decide +kernel) (by decide +kernel)
theorem bp_23 : (.selects "FannedSitesModel" ⟨"FannedSitesModel", "link", "(IIII)I"⟩ ⟨"FannedSitesModel", "link", "(IIII)I"⟩ : Cond) ∈ BIG := big_pr 23 (by decide +kernel) (by decide +kernel)
theorem bp_24 : (.selects "FannedSitesModel" ⟨"FannedSitesModel", "follow", "(III)Z"⟩ ⟨"FannedSitesModel", "follow", "(III)Z"⟩ : Cond) ∈ BIG := big_pr 24 (by decide +kernel) (by decide +kernel)
theorem bp_25 : (.selects "FannedSitesModel" ⟨"FannedSitesModel", "goRound", "()V"⟩ ⟨"FannedSitesModel", "goRound", "()V"⟩ : Cond) ∈ BIG := big_pr 25 (by decide +kernel) (by decide +kernel)
theorem bp_26 : (.selects "FannedSitesModel" ⟨"FannedSitesModel", "earliest", "()I"⟩ ⟨"FannedSitesModel", "earliest", "()I"⟩ : Cond) ∈ BIG := big_pr 26 (by decide +kernel) (by decide +kernel)
theorem bp_27 : (.selects "FannedSitesModel" ⟨"FannedSitesModel", "later", "(I)I"⟩ ⟨"FannedSitesModel", "later", "(I)I"⟩ : Cond) ∈ BIG := big_pr 27 (by decide +kernel) (by decide +kernel)
theorem bp_28 : (.selects "FannedSitesModel" ⟨"FannedSitesModel", "onward", "(I)I"⟩ ⟨"FannedSitesModel", "onward", "(I)I"⟩ : Cond) ∈ BIG := big_pr 28 (by decide +kernel) (by decide +kernel)
theorem bp_29 : (.selects "FannedSitesModel" ⟨"FannedSitesModel", "distance", "(II)J"⟩ ⟨"FannedSitesModel", "distance", "(II)J"⟩ : Cond) ∈ BIG := big_pr 29 (by decide +kernel) (by decide +kernel)
theorem bw_1 : (.initialized "FannedSites" : Cond) ∈ BIG := big_of 1 (by decide +kernel) (by decide +kernel)
theorem bw_2 : (.initialized "FannedSites$Points" : Cond) ∈ BIG := big_of 2 (by decide +kernel) (by decide +kernel)
theorem bw_3 : (.initialized "FannedSites$Outline" : Cond) ∈ BIG := big_of 3 (by decide +kernel) (by decide +kernel)
theorem bw_4 : (.initialized "FannedSites$Mesh" : Cond) ∈ BIG := big_of 4 (by decide +kernel) (by decide +kernel)
theorem bw_5 : (.initialized "FannedSitesModel" : Cond) ∈ BIG := big_of 5 (by decide +kernel) (by decide +kernel)
theorem bw_6 : (.initialized "java/util/Arrays" : Cond) ∈ BIG := big_of 6 (by decide +kernel) (by decide +kernel)
theorem bw_21 : (.fieldLink "FannedSites$Points" 9 "FannedSites$Points" "xs" "[I" : Cond) ∈ BIG := big_of 21 (by decide +kernel) (by decide +kernel)
theorem bw_22 : (.fieldLink "FannedSites$Points" 15 "FannedSites$Points" "ys" "[I" : Cond) ∈ BIG := big_of 22 (by decide +kernel) (by decide +kernel)
theorem bw_23 : (.fieldLink "FannedSites$Points" 18 "FannedSites$Points" "taken" "[Z" : Cond) ∈ BIG := big_of 23 (by decide +kernel) (by decide +kernel)
theorem bw_24 : (.fieldLink "FannedSites$Points" 22 "FannedSites$Points" "order" "[I" : Cond) ∈ BIG := big_of 24 (by decide +kernel) (by decide +kernel)
theorem bw_25 : (.fieldLink "FannedSites$Points" 25 "FannedSites$Points" "size" "I" : Cond) ∈ BIG := big_of 25 (by decide +kernel) (by decide +kernel)
theorem bw_45 : (.fieldLink "FannedSites$Outline" 9 "FannedSites$Outline" "row" "[I" : Cond) ∈ BIG := big_of 45 (by decide +kernel) (by decide +kernel)
theorem bw_46 : (.fieldLink "FannedSites$Outline" 15 "FannedSites$Outline" "size" "I" : Cond) ∈ BIG := big_of 46 (by decide +kernel) (by decide +kernel)
theorem bw_47 : (.fieldLink "FannedSites$Outline" 19 "FannedSites$Outline" "flat" "Z" : Cond) ∈ BIG := big_of 47 (by decide +kernel) (by decide +kernel)
theorem bw_61 : (.fieldLink "FannedSites$Mesh" 9 "FannedSites$Mesh" "keys" "[I" : Cond) ∈ BIG := big_of 61 (by decide +kernel) (by decide +kernel)
theorem bw_62 : (.fieldLink "FannedSites$Mesh" 15 "FannedSites$Mesh" "faceSizes" "[I" : Cond) ∈ BIG := big_of 62 (by decide +kernel) (by decide +kernel)
theorem bw_63 : (.fieldLink "FannedSites$Mesh" 18 "FannedSites$Mesh" "size" "I" : Cond) ∈ BIG := big_of 63 (by decide +kernel) (by decide +kernel)
theorem bw_64 : (.fieldLink "FannedSites$Mesh" 22 "FannedSites$Mesh" "links" "[I" : Cond) ∈ BIG := big_of 64 (by decide +kernel) (by decide +kernel)
theorem bw_65 : (.fieldLink "FannedSites$Mesh" 25 "FannedSites$Mesh" "waiting" "[I" : Cond) ∈ BIG := big_of 65 (by decide +kernel) (by decide +kernel)
theorem bw_66 : (.fieldLink "FannedSites$Mesh" 28 "FannedSites$Mesh" "waitingSize" "I" : Cond) ∈ BIG := big_of 66 (by decide +kernel) (by decide +kernel)
theorem bw_67 : (.fieldLink "FannedSites$Mesh" 31 "FannedSites$Mesh" "ring" "[I" : Cond) ∈ BIG := big_of 67 (by decide +kernel) (by decide +kernel)
theorem bw_68 : (.fieldLink "FannedSites$Mesh" 34 "FannedSites$Mesh" "ringSize" "I" : Cond) ∈ BIG := big_of 68 (by decide +kernel) (by decide +kernel)
theorem bw_86 : (.fieldLink "FannedSites" 12 "FannedSites" "points" "LFannedSites$Points;" : Cond) ∈ BIG := big_of 86 (by decide +kernel) (by decide +kernel)
theorem bw_87 : (.fieldLink "FannedSites" 19 "FannedSites" "outline" "LFannedSites$Outline;" : Cond) ∈ BIG := big_of 87 (by decide +kernel) (by decide +kernel)
theorem bw_88 : (.fieldLink "FannedSites" 26 "FannedSites" "mesh" "LFannedSites$Mesh;" : Cond) ∈ BIG := big_of 88 (by decide +kernel) (by decide +kernel)
theorem bw_89 : (.fieldLink "FannedSites" 30 "FannedSites" "stale" "Z" : Cond) ∈ BIG := big_of 89 (by decide +kernel) (by decide +kernel)
theorem bw_103 : (.methodLink "FannedSites" 34 ⟨"FannedSites", "inReach", "(II)Z"⟩ : Cond) ∈ BIG := big_of 103 (by decide +kernel) (by decide +kernel)
theorem bw_104 : (.static ⟨"FannedSites", "inReach", "(II)Z"⟩ : Cond) ∈ BIG := big_of 104 (by decide +kernel) (by decide +kernel)
theorem bw_105 : (.code ⟨"FannedSites", "inReach", "(II)Z"⟩ prog_1_method_20_code 2 (some .boolean) : Cond) ∈ BIG := big_of 105 (by decide +kernel) (by decide +kernel)
theorem bw_106 : (.constant "FannedSites" 124 (-1000000) : Cond) ∈ BIG := big_of 106 (by decide +kernel) (by decide +kernel)
theorem bw_107 : (.constant "FannedSites" 125 1000000 : Cond) ∈ BIG := big_of 107 (by decide +kernel) (by decide +kernel)
theorem bw_108 : (.methodLink "FannedSites" 38 ⟨"FannedSites$Points", "slotAt", "(II)I"⟩ : Cond) ∈ BIG := big_of 108 (by decide +kernel) (by decide +kernel)
theorem bw_109 : (.instanceMethod ⟨"FannedSites$Points", "slotAt", "(II)I"⟩ : Cond) ∈ BIG := big_of 109 (by decide +kernel) (by decide +kernel)
theorem bw_110 : (.selects "FannedSites$Points" ⟨"FannedSites$Points", "slotAt", "(II)I"⟩ ⟨"FannedSites$Points", "slotAt", "(II)I"⟩ : Cond) ∈ BIG := big_of 110 (by decide +kernel) (by decide +kernel)
theorem bw_111 : (.code ⟨"FannedSites$Points", "slotAt", "(II)I"⟩ prog_4_method_7_code 4 (some .int) : Cond) ∈ BIG := big_of 111 (by decide +kernel) (by decide +kernel)
theorem bw_112 : (.methodLink "FannedSites" 42 ⟨"FannedSites$Points", "freeSlot", "()I"⟩ : Cond) ∈ BIG := big_of 112 (by decide +kernel) (by decide +kernel)
theorem bw_113 : (.instanceMethod ⟨"FannedSites$Points", "freeSlot", "()I"⟩ : Cond) ∈ BIG := big_of 113 (by decide +kernel) (by decide +kernel)
theorem bw_114 : (.selects "FannedSites$Points" ⟨"FannedSites$Points", "freeSlot", "()I"⟩ ⟨"FannedSites$Points", "freeSlot", "()I"⟩ : Cond) ∈ BIG := big_of 114 (by decide +kernel) (by decide +kernel)
theorem bw_115 : (.code ⟨"FannedSites$Points", "freeSlot", "()I"⟩ prog_4_method_8_code 2 (some .int) : Cond) ∈ BIG := big_of 115 (by decide +kernel) (by decide +kernel)
theorem bw_116 : (.methodLink "FannedSites" 46 ⟨"FannedSites$Points", "put", "(III)V"⟩ : Cond) ∈ BIG := big_of 116 (by decide +kernel) (by decide +kernel)
theorem bw_117 : (.instanceMethod ⟨"FannedSites$Points", "put", "(III)V"⟩ : Cond) ∈ BIG := big_of 117 (by decide +kernel) (by decide +kernel)
theorem bw_118 : (.selects "FannedSites$Points" ⟨"FannedSites$Points", "put", "(III)V"⟩ ⟨"FannedSites$Points", "put", "(III)V"⟩ : Cond) ∈ BIG := big_of 118 (by decide +kernel) (by decide +kernel)
theorem bw_119 : (.code ⟨"FannedSites$Points", "put", "(III)V"⟩ prog_4_method_9_code 5 (none : Option Jvm.ClassFile.FieldType) : Cond) ∈ BIG := big_of 119 (by decide +kernel) (by decide +kernel)
theorem bw_120 : (.methodLink "FannedSites$Points" 29 ⟨"FannedSites$Points", "isEarlier", "(II)Z"⟩ : Cond) ∈ BIG := big_of 120 (by decide +kernel) (by decide +kernel)
theorem bw_122 : (.instanceMethod ⟨"FannedSites$Points", "isEarlier", "(II)Z"⟩ : Cond) ∈ BIG := big_of 122 (by decide +kernel) (by decide +kernel)
theorem bw_123 : (.code ⟨"FannedSites$Points", "isEarlier", "(II)Z"⟩ prog_4_method_11_code 3 (some .boolean) : Cond) ∈ BIG := big_of 123 (by decide +kernel) (by decide +kernel)
theorem bw_128 : (.methodLink "FannedSites" 50 ⟨"FannedSites$Points", "has", "(I)Z"⟩ : Cond) ∈ BIG := big_of 128 (by decide +kernel) (by decide +kernel)
theorem bw_129 : (.instanceMethod ⟨"FannedSites$Points", "has", "(I)Z"⟩ : Cond) ∈ BIG := big_of 129 (by decide +kernel) (by decide +kernel)
theorem bw_130 : (.selects "FannedSites$Points" ⟨"FannedSites$Points", "has", "(I)Z"⟩ ⟨"FannedSites$Points", "has", "(I)Z"⟩ : Cond) ∈ BIG := big_of 130 (by decide +kernel) (by decide +kernel)
theorem bw_131 : (.code ⟨"FannedSites$Points", "has", "(I)Z"⟩ prog_4_method_3_code 2 (some .boolean) : Cond) ∈ BIG := big_of 131 (by decide +kernel) (by decide +kernel)
theorem bw_132 : (.methodLink "FannedSites" 54 ⟨"FannedSites$Points", "drop", "(I)V"⟩ : Cond) ∈ BIG := big_of 132 (by decide +kernel) (by decide +kernel)
theorem bw_133 : (.instanceMethod ⟨"FannedSites$Points", "drop", "(I)V"⟩ : Cond) ∈ BIG := big_of 133 (by decide +kernel) (by decide +kernel)
theorem bw_134 : (.selects "FannedSites$Points" ⟨"FannedSites$Points", "drop", "(I)V"⟩ ⟨"FannedSites$Points", "drop", "(I)V"⟩ : Cond) ∈ BIG := big_of 134 (by decide +kernel) (by decide +kernel)
theorem bw_135 : (.code ⟨"FannedSites$Points", "drop", "(I)V"⟩ prog_4_method_10_code 4 (none : Option Jvm.ClassFile.FieldType) : Cond) ∈ BIG := big_of 135 (by decide +kernel) (by decide +kernel)
theorem bw_144 : (.methodLink "FannedSites" 58 ⟨"FannedSites$Points", "size", "()I"⟩ : Cond) ∈ BIG := big_of 144 (by decide +kernel) (by decide +kernel)
theorem bw_145 : (.instanceMethod ⟨"FannedSites$Points", "size", "()I"⟩ : Cond) ∈ BIG := big_of 145 (by decide +kernel) (by decide +kernel)
theorem bw_146 : (.selects "FannedSites$Points" ⟨"FannedSites$Points", "size", "()I"⟩ ⟨"FannedSites$Points", "size", "()I"⟩ : Cond) ∈ BIG := big_of 146 (by decide +kernel) (by decide +kernel)
theorem bw_147 : (.code ⟨"FannedSites$Points", "size", "()I"⟩ prog_4_method_2_code 1 (some .int) : Cond) ∈ BIG := big_of 147 (by decide +kernel) (by decide +kernel)
theorem bw_152 : (.constant "FannedSites" 61 2000000 : Cond) ∈ BIG := big_of 152 (by decide +kernel) (by decide +kernel)
theorem bw_153 : (.methodLink "FannedSites" 62 ⟨"FannedSites$Points", "x", "(I)I"⟩ : Cond) ∈ BIG := big_of 153 (by decide +kernel) (by decide +kernel)
theorem bw_154 : (.instanceMethod ⟨"FannedSites$Points", "x", "(I)I"⟩ : Cond) ∈ BIG := big_of 154 (by decide +kernel) (by decide +kernel)
theorem bw_155 : (.selects "FannedSites$Points" ⟨"FannedSites$Points", "x", "(I)I"⟩ ⟨"FannedSites$Points", "x", "(I)I"⟩ : Cond) ∈ BIG := big_of 155 (by decide +kernel) (by decide +kernel)
theorem bw_156 : (.code ⟨"FannedSites$Points", "x", "(I)I"⟩ prog_4_method_4_code 2 (some .int) : Cond) ∈ BIG := big_of 156 (by decide +kernel) (by decide +kernel)
theorem bw_157 : (.methodLink "FannedSites" 66 ⟨"FannedSites$Points", "y", "(I)I"⟩ : Cond) ∈ BIG := big_of 157 (by decide +kernel) (by decide +kernel)
theorem bw_158 : (.instanceMethod ⟨"FannedSites$Points", "y", "(I)I"⟩ : Cond) ∈ BIG := big_of 158 (by decide +kernel) (by decide +kernel)
theorem bw_159 : (.selects "FannedSites$Points" ⟨"FannedSites$Points", "y", "(I)I"⟩ ⟨"FannedSites$Points", "y", "(I)I"⟩ : Cond) ∈ BIG := big_of 159 (by decide +kernel) (by decide +kernel)
theorem bw_160 : (.code ⟨"FannedSites$Points", "y", "(I)I"⟩ prog_4_method_5_code 2 (some .int) : Cond) ∈ BIG := big_of 160 (by decide +kernel) (by decide +kernel)
theorem bw_165 : (.methodLink "FannedSites" 69 ⟨"FannedSites", "refresh", "()V"⟩ : Cond) ∈ BIG := big_of 165 (by decide +kernel) (by decide +kernel)
theorem bw_167 : (.instanceMethod ⟨"FannedSites", "refresh", "()V"⟩ : Cond) ∈ BIG := big_of 167 (by decide +kernel) (by decide +kernel)
theorem bw_168 : (.code ⟨"FannedSites", "refresh", "()V"⟩ prog_1_method_18_code 1 (none : Option Jvm.ClassFile.FieldType) : Cond) ∈ BIG := big_of 168 (by decide +kernel) (by decide +kernel)
theorem bw_169 : (.methodLink "FannedSites" 109 ⟨"FannedSites$Outline", "trace", "(LFannedSites$Points;)V"⟩ : Cond) ∈ BIG := big_of 169 (by decide +kernel) (by decide +kernel)
theorem bw_170 : (.instanceMethod ⟨"FannedSites$Outline", "trace", "(LFannedSites$Points;)V"⟩ : Cond) ∈ BIG := big_of 170 (by decide +kernel) (by decide +kernel)
theorem bw_171 : (.selects "FannedSites$Outline" ⟨"FannedSites$Outline", "trace", "(LFannedSites$Points;)V"⟩ ⟨"FannedSites$Outline", "trace", "(LFannedSites$Points;)V"⟩ : Cond) ∈ BIG := big_of 171 (by decide +kernel) (by decide +kernel)
theorem bw_172 : (.code ⟨"FannedSites$Outline", "trace", "(LFannedSites$Points;)V"⟩ prog_3_method_5_code 4 (none : Option Jvm.ClassFile.FieldType) : Cond) ∈ BIG := big_of 172 (by decide +kernel) (by decide +kernel)
theorem bw_173 : (.methodLink "FannedSites$Outline" 23 ⟨"FannedSites$Outline", "allOnOneLine", "(LFannedSites$Points;)Z"⟩ : Cond) ∈ BIG := big_of 173 (by decide +kernel) (by decide +kernel)
theorem bw_174 : (.static ⟨"FannedSites$Outline", "allOnOneLine", "(LFannedSites$Points;)Z"⟩ : Cond) ∈ BIG := big_of 174 (by decide +kernel) (by decide +kernel)
theorem bw_175 : (.code ⟨"FannedSites$Outline", "allOnOneLine", "(LFannedSites$Points;)Z"⟩ prog_3_method_6_code 2 (some .boolean) : Cond) ∈ BIG := big_of 175 (by decide +kernel) (by decide +kernel)
theorem bw_176 : (.methodLink "FannedSites$Outline" 27 ⟨"FannedSites$Points", "size", "()I"⟩ : Cond) ∈ BIG := big_of 176 (by decide +kernel) (by decide +kernel)
theorem bw_177 : (.methodLink "FannedSites$Outline" 32 ⟨"FannedSites$Points", "inOrder", "(I)I"⟩ : Cond) ∈ BIG := big_of 177 (by decide +kernel) (by decide +kernel)
theorem bw_178 : (.instanceMethod ⟨"FannedSites$Points", "inOrder", "(I)I"⟩ : Cond) ∈ BIG := big_of 178 (by decide +kernel) (by decide +kernel)
theorem bw_179 : (.selects "FannedSites$Points" ⟨"FannedSites$Points", "inOrder", "(I)I"⟩ ⟨"FannedSites$Points", "inOrder", "(I)I"⟩ : Cond) ∈ BIG := big_of 179 (by decide +kernel) (by decide +kernel)
theorem bw_180 : (.code ⟨"FannedSites$Points", "inOrder", "(I)I"⟩ prog_4_method_6_code 2 (some .int) : Cond) ∈ BIG := big_of 180 (by decide +kernel) (by decide +kernel)
theorem bw_181 : (.methodLink "FannedSites$Outline" 40 ⟨"FannedSites$Points", "side", "(III)I"⟩ : Cond) ∈ BIG := big_of 181 (by decide +kernel) (by decide +kernel)
theorem bw_182 : (.instanceMethod ⟨"FannedSites$Points", "side", "(III)I"⟩ : Cond) ∈ BIG := big_of 182 (by decide +kernel) (by decide +kernel)
theorem bw_183 : (.selects "FannedSites$Points" ⟨"FannedSites$Points", "side", "(III)I"⟩ ⟨"FannedSites$Points", "side", "(III)I"⟩ : Cond) ∈ BIG := big_of 183 (by decide +kernel) (by decide +kernel)
theorem bw_184 : (.code ⟨"FannedSites$Points", "side", "(III)I"⟩ prog_4_method_15_code 4 (some .int) : Cond) ∈ BIG := big_of 184 (by decide +kernel) (by decide +kernel)
theorem bw_185 : (.methodLink "FannedSites$Points" 33 ⟨"FannedSites$Points", "crossTo", "(IIII)J"⟩ : Cond) ∈ BIG := big_of 185 (by decide +kernel) (by decide +kernel)
theorem bw_186 : (.instanceMethod ⟨"FannedSites$Points", "crossTo", "(IIII)J"⟩ : Cond) ∈ BIG := big_of 186 (by decide +kernel) (by decide +kernel)
theorem bw_187 : (.selects "FannedSites$Points" ⟨"FannedSites$Points", "crossTo", "(IIII)J"⟩ ⟨"FannedSites$Points", "crossTo", "(IIII)J"⟩ : Cond) ∈ BIG := big_of 187 (by decide +kernel) (by decide +kernel)
theorem bw_188 : (.code ⟨"FannedSites$Points", "crossTo", "(IIII)J"⟩ prog_4_method_13_code 13 (some .long) : Cond) ∈ BIG := big_of 188 (by decide +kernel) (by decide +kernel)
theorem bw_190 : (.static ⟨"FannedSites", "sign", "(J)I"⟩ : Cond) ∈ BIG := big_of 190 (by decide +kernel) (by decide +kernel)
theorem bw_191 : (.code ⟨"FannedSites", "sign", "(J)I"⟩ prog_1_method_21_code 2 (some .int) : Cond) ∈ BIG := big_of 191 (by decide +kernel) (by decide +kernel)
theorem bw_192 : (.methodLink "FannedSites$Outline" 36 ⟨"FannedSites$Outline", "push", "(LFannedSites$Points;I)V"⟩ : Cond) ∈ BIG := big_of 192 (by decide +kernel) (by decide +kernel)
theorem bw_194 : (.instanceMethod ⟨"FannedSites$Outline", "push", "(LFannedSites$Points;I)V"⟩ : Cond) ∈ BIG := big_of 194 (by decide +kernel) (by decide +kernel)
theorem bw_195 : (.code ⟨"FannedSites$Outline", "push", "(LFannedSites$Points;I)V"⟩ prog_3_method_7_code 3 (none : Option Jvm.ClassFile.FieldType) : Cond) ∈ BIG := big_of 195 (by decide +kernel) (by decide +kernel)
theorem bw_196 : (.methodLink "FannedSites" 113 ⟨"FannedSites$Mesh", "begin", "(LFannedSites$Outline;)V"⟩ : Cond) ∈ BIG := big_of 196 (by decide +kernel) (by decide +kernel)
theorem bw_197 : (.instanceMethod ⟨"FannedSites$Mesh", "begin", "(LFannedSites$Outline;)V"⟩ : Cond) ∈ BIG := big_of 197 (by decide +kernel) (by decide +kernel)
theorem bw_198 : (.selects "FannedSites$Mesh" ⟨"FannedSites$Mesh", "begin", "(LFannedSites$Outline;)V"⟩ ⟨"FannedSites$Mesh", "begin", "(LFannedSites$Outline;)V"⟩ : Cond) ∈ BIG := big_of 198 (by decide +kernel) (by decide +kernel)
theorem bw_199 : (.code ⟨"FannedSites$Mesh", "begin", "(LFannedSites$Outline;)V"⟩ prog_2_method_8_code 2 (none : Option Jvm.ClassFile.FieldType) : Cond) ∈ BIG := big_of 199 (by decide +kernel) (by decide +kernel)
theorem bw_200 : (.methodLink "FannedSites$Mesh" 41 ⟨"java/util/Arrays", "fill", "([II)V"⟩ : Cond) ∈ BIG := big_of 200 (by decide +kernel) (by decide +kernel)
theorem bw_201 : (.static ⟨"java/util/Arrays", "fill", "([II)V"⟩ : Cond) ∈ BIG := big_of 201 (by decide +kernel) (by decide +kernel)
theorem bw_202 : (.code ⟨"java/util/Arrays", "fill", "([II)V"⟩ prog_7_method_103_code 4 (none : Option Jvm.ClassFile.FieldType) : Cond) ∈ BIG := big_of 202 (by decide +kernel) (by decide +kernel)
theorem bw_203 : (.methodLink "FannedSites$Mesh" 47 ⟨"FannedSites$Outline", "isFlat", "()Z"⟩ : Cond) ∈ BIG := big_of 203 (by decide +kernel) (by decide +kernel)
theorem bw_204 : (.instanceMethod ⟨"FannedSites$Outline", "isFlat", "()Z"⟩ : Cond) ∈ BIG := big_of 204 (by decide +kernel) (by decide +kernel)
theorem bw_205 : (.selects "FannedSites$Outline" ⟨"FannedSites$Outline", "isFlat", "()Z"⟩ ⟨"FannedSites$Outline", "isFlat", "()Z"⟩ : Cond) ∈ BIG := big_of 205 (by decide +kernel) (by decide +kernel)
theorem bw_206 : (.code ⟨"FannedSites$Outline", "isFlat", "()Z"⟩ prog_3_method_3_code 1 (some .boolean) : Cond) ∈ BIG := big_of 206 (by decide +kernel) (by decide +kernel)
theorem bw_207 : (.methodLink "FannedSites$Mesh" 53 ⟨"FannedSites$Mesh", "linkLine", "(LFannedSites$Outline;)V"⟩ : Cond) ∈ BIG := big_of 207 (by decide +kernel) (by decide +kernel)
theorem bw_209 : (.instanceMethod ⟨"FannedSites$Mesh", "linkLine", "(LFannedSites$Outline;)V"⟩ : Cond) ∈ BIG := big_of 209 (by decide +kernel) (by decide +kernel)
theorem bw_210 : (.code ⟨"FannedSites$Mesh", "linkLine", "(LFannedSites$Outline;)V"⟩ prog_2_method_9_code 3 (none : Option Jvm.ClassFile.FieldType) : Cond) ∈ BIG := big_of 210 (by decide +kernel) (by decide +kernel)
theorem bw_211 : (.methodLink "FannedSites$Mesh" 60 ⟨"FannedSites$Outline", "size", "()I"⟩ : Cond) ∈ BIG := big_of 211 (by decide +kernel) (by decide +kernel)
theorem bw_212 : (.instanceMethod ⟨"FannedSites$Outline", "size", "()I"⟩ : Cond) ∈ BIG := big_of 212 (by decide +kernel) (by decide +kernel)
theorem bw_213 : (.selects "FannedSites$Outline" ⟨"FannedSites$Outline", "size", "()I"⟩ ⟨"FannedSites$Outline", "size", "()I"⟩ : Cond) ∈ BIG := big_of 213 (by decide +kernel) (by decide +kernel)
theorem bw_214 : (.code ⟨"FannedSites$Outline", "size", "()I"⟩ prog_3_method_2_code 1 (some .int) : Cond) ∈ BIG := big_of 214 (by decide +kernel) (by decide +kernel)
theorem bw_215 : (.methodLink "FannedSites$Mesh" 63 ⟨"FannedSites$Outline", "at", "(I)I"⟩ : Cond) ∈ BIG := big_of 215 (by decide +kernel) (by decide +kernel)
theorem bw_216 : (.instanceMethod ⟨"FannedSites$Outline", "at", "(I)I"⟩ : Cond) ∈ BIG := big_of 216 (by decide +kernel) (by decide +kernel)
theorem bw_217 : (.selects "FannedSites$Outline" ⟨"FannedSites$Outline", "at", "(I)I"⟩ ⟨"FannedSites$Outline", "at", "(I)I"⟩ : Cond) ∈ BIG := big_of 217 (by decide +kernel) (by decide +kernel)
theorem bw_218 : (.code ⟨"FannedSites$Outline", "at", "(I)I"⟩ prog_3_method_4_code 2 (some .int) : Cond) ∈ BIG := big_of 218 (by decide +kernel) (by decide +kernel)
theorem bw_219 : (.methodLink "FannedSites$Mesh" 67 ⟨"FannedSites$Mesh", "link", "(II)V"⟩ : Cond) ∈ BIG := big_of 219 (by decide +kernel) (by decide +kernel)
theorem bw_221 : (.instanceMethod ⟨"FannedSites$Mesh", "link", "(II)V"⟩ : Cond) ∈ BIG := big_of 221 (by decide +kernel) (by decide +kernel)
theorem bw_222 : (.code ⟨"FannedSites$Mesh", "link", "(II)V"⟩ prog_2_method_17_code 3 (none : Option Jvm.ClassFile.FieldType) : Cond) ∈ BIG := big_of 222 (by decide +kernel) (by decide +kernel)
theorem bw_223 : (.methodLink "FannedSites$Mesh" 57 ⟨"FannedSites$Mesh", "awaitOutline", "(LFannedSites$Outline;)V"⟩ : Cond) ∈ BIG := big_of 223 (by decide +kernel) (by decide +kernel)
theorem bw_225 : (.instanceMethod ⟨"FannedSites$Mesh", "awaitOutline", "(LFannedSites$Outline;)V"⟩ : Cond) ∈ BIG := big_of 225 (by decide +kernel) (by decide +kernel)
theorem bw_226 : (.code ⟨"FannedSites$Mesh", "awaitOutline", "(LFannedSites$Outline;)V"⟩ prog_2_method_10_code 5 (none : Option Jvm.ClassFile.FieldType) : Cond) ∈ BIG := big_of 226 (by decide +kernel) (by decide +kernel)
theorem bw_227 : (.methodLink "FannedSites$Mesh" 71 ⟨"FannedSites$Mesh", "await", "(II)V"⟩ : Cond) ∈ BIG := big_of 227 (by decide +kernel) (by decide +kernel)
theorem bw_229 : (.instanceMethod ⟨"FannedSites$Mesh", "await", "(II)V"⟩ : Cond) ∈ BIG := big_of 229 (by decide +kernel) (by decide +kernel)
theorem bw_230 : (.code ⟨"FannedSites$Mesh", "await", "(II)V"⟩ prog_2_method_19_code 3 (none : Option Jvm.ClassFile.FieldType) : Cond) ∈ BIG := big_of 230 (by decide +kernel) (by decide +kernel)
theorem bw_231 : (.methodLink "FannedSites" 117 ⟨"FannedSites$Mesh", "spread", "(LFannedSites$Points;)V"⟩ : Cond) ∈ BIG := big_of 231 (by decide +kernel) (by decide +kernel)
theorem bw_232 : (.instanceMethod ⟨"FannedSites$Mesh", "spread", "(LFannedSites$Points;)V"⟩ : Cond) ∈ BIG := big_of 232 (by decide +kernel) (by decide +kernel)
theorem bw_233 : (.selects "FannedSites$Mesh" ⟨"FannedSites$Mesh", "spread", "(LFannedSites$Points;)V"⟩ ⟨"FannedSites$Mesh", "spread", "(LFannedSites$Points;)V"⟩ : Cond) ∈ BIG := big_of 233 (by decide +kernel) (by decide +kernel)
theorem bw_234 : (.code ⟨"FannedSites$Mesh", "spread", "(LFannedSites$Points;)V"⟩ prog_2_method_11_code 6 (none : Option Jvm.ClassFile.FieldType) : Cond) ∈ BIG := big_of 234 (by decide +kernel) (by decide +kernel)
theorem bw_235 : (.methodLink "FannedSites$Mesh" 74 ⟨"FannedSites$Mesh", "isLinked", "(II)Z"⟩ : Cond) ∈ BIG := big_of 235 (by decide +kernel) (by decide +kernel)
theorem bw_237 : (.instanceMethod ⟨"FannedSites$Mesh", "isLinked", "(II)Z"⟩ : Cond) ∈ BIG := big_of 237 (by decide +kernel) (by decide +kernel)
theorem bw_238 : (.code ⟨"FannedSites$Mesh", "isLinked", "(II)Z"⟩ prog_2_method_18_code 3 (some .boolean) : Cond) ∈ BIG := big_of 238 (by decide +kernel) (by decide +kernel)
theorem bw_239 : (.methodLink "FannedSites$Mesh" 78 ⟨"FannedSites$Mesh", "apexOver", "(LFannedSites$Points;II)I"⟩ : Cond) ∈ BIG := big_of 239 (by decide +kernel) (by decide +kernel)
theorem bw_240 : (.static ⟨"FannedSites$Mesh", "apexOver", "(LFannedSites$Points;II)I"⟩ : Cond) ∈ BIG := big_of 240 (by decide +kernel) (by decide +kernel)
theorem bw_241 : (.code ⟨"FannedSites$Mesh", "apexOver", "(LFannedSites$Points;II)I"⟩ prog_2_method_13_code 6 (some .int) : Cond) ∈ BIG := big_of 241 (by decide +kernel) (by decide +kernel)
theorem bw_242 : (.methodLink "FannedSites$Mesh" 89 ⟨"FannedSites$Points", "size", "()I"⟩ : Cond) ∈ BIG := big_of 242 (by decide +kernel) (by decide +kernel)
theorem bw_243 : (.methodLink "FannedSites$Mesh" 92 ⟨"FannedSites$Points", "inOrder", "(I)I"⟩ : Cond) ∈ BIG := big_of 243 (by decide +kernel) (by decide +kernel)
theorem bw_244 : (.methodLink "FannedSites$Mesh" 103 ⟨"FannedSites$Points", "side", "(III)I"⟩ : Cond) ∈ BIG := big_of 244 (by decide +kernel) (by decide +kernel)
theorem bw_245 : (.methodLink "FannedSites$Mesh" 95 ⟨"FannedSites$Points", "circleSide", "(IIII)I"⟩ : Cond) ∈ BIG := big_of 245 (by decide +kernel) (by decide +kernel)
theorem bw_246 : (.instanceMethod ⟨"FannedSites$Points", "circleSide", "(IIII)I"⟩ : Cond) ∈ BIG := big_of 246 (by decide +kernel) (by decide +kernel)
theorem bw_247 : (.selects "FannedSites$Points" ⟨"FannedSites$Points", "circleSide", "(IIII)I"⟩ ⟨"FannedSites$Points", "circleSide", "(IIII)I"⟩ : Cond) ∈ BIG := big_of 247 (by decide +kernel) (by decide +kernel)
theorem bw_248 : (.code ⟨"FannedSites$Points", "circleSide", "(IIII)I"⟩ prog_4_method_16_code 17 (some .int) : Cond) ∈ BIG := big_of 248 (by decide +kernel) (by decide +kernel)
theorem bw_249 : (.methodLink "FannedSites$Points" 41 ⟨"FannedSites$Points", "signOfProducts", "(JJJJJJ)I"⟩ : Cond) ∈ BIG := big_of 249 (by decide +kernel) (by decide +kernel)
theorem bw_250 : (.static ⟨"FannedSites$Points", "signOfProducts", "(JJJJJJ)I"⟩ : Cond) ∈ BIG := big_of 250 (by decide +kernel) (by decide +kernel)
theorem bw_251 : (.code ⟨"FannedSites$Points", "signOfProducts", "(JJJJJJ)I"⟩ prog_4_method_17_code 18 (some .int) : Cond) ∈ BIG := big_of 251 (by decide +kernel) (by decide +kernel)
theorem bw_252 : (.constantLong "FannedSites$Points" 45 32767 : Cond) ∈ BIG := big_of 252 (by decide +kernel) (by decide +kernel)
theorem bw_253 : (.methodLink "FannedSites$Mesh" 82 ⟨"FannedSites$Mesh", "gatherRing", "(LFannedSites$Points;III)V"⟩ : Cond) ∈ BIG := big_of 253 (by decide +kernel) (by decide +kernel)
theorem bw_255 : (.instanceMethod ⟨"FannedSites$Mesh", "gatherRing", "(LFannedSites$Points;III)V"⟩ : Cond) ∈ BIG := big_of 255 (by decide +kernel) (by decide +kernel)
theorem bw_256 : (.code ⟨"FannedSites$Mesh", "gatherRing", "(LFannedSites$Points;III)V"⟩ prog_2_method_12_code 7 (none : Option Jvm.ClassFile.FieldType) : Cond) ∈ BIG := big_of 256 (by decide +kernel) (by decide +kernel)
theorem bw_257 : (.methodLink "FannedSites$Mesh" 99 ⟨"FannedSites$Mesh", "addToRing", "(LFannedSites$Points;I)V"⟩ : Cond) ∈ BIG := big_of 257 (by decide +kernel) (by decide +kernel)
theorem bw_259 : (.instanceMethod ⟨"FannedSites$Mesh", "addToRing", "(LFannedSites$Points;I)V"⟩ : Cond) ∈ BIG := big_of 259 (by decide +kernel) (by decide +kernel)
theorem bw_260 : (.code ⟨"FannedSites$Mesh", "addToRing", "(LFannedSites$Points;I)V"⟩ prog_2_method_14_code 4 (none : Option Jvm.ClassFile.FieldType) : Cond) ∈ BIG := big_of 260 (by decide +kernel) (by decide +kernel)
theorem bw_261 : (.methodLink "FannedSites$Mesh" 86 ⟨"FannedSites$Mesh", "addFace", "()V"⟩ : Cond) ∈ BIG := big_of 261 (by decide +kernel) (by decide +kernel)
theorem bw_263 : (.instanceMethod ⟨"FannedSites$Mesh", "addFace", "()V"⟩ : Cond) ∈ BIG := big_of 263 (by decide +kernel) (by decide +kernel)
theorem bw_264 : (.code ⟨"FannedSites$Mesh", "addFace", "()V"⟩ prog_2_method_15_code 4 (none : Option Jvm.ClassFile.FieldType) : Cond) ∈ BIG := big_of 264 (by decide +kernel) (by decide +kernel)
theorem bw_265 : (.methodLink "FannedSites$Mesh" 107 ⟨"FannedSites$Mesh", "addTriangle", "(III)V"⟩ : Cond) ∈ BIG := big_of 265 (by decide +kernel) (by decide +kernel)
theorem bw_267 : (.instanceMethod ⟨"FannedSites$Mesh", "addTriangle", "(III)V"⟩ : Cond) ∈ BIG := big_of 267 (by decide +kernel) (by decide +kernel)
theorem bw_268 : (.code ⟨"FannedSites$Mesh", "addTriangle", "(III)V"⟩ prog_2_method_16_code 6 (none : Option Jvm.ClassFile.FieldType) : Cond) ∈ BIG := big_of 268 (by decide +kernel) (by decide +kernel)
theorem bw_269 : (.methodLink "FannedSites" 72 ⟨"FannedSites$Mesh", "size", "()I"⟩ : Cond) ∈ BIG := big_of 269 (by decide +kernel) (by decide +kernel)
theorem bw_270 : (.instanceMethod ⟨"FannedSites$Mesh", "size", "()I"⟩ : Cond) ∈ BIG := big_of 270 (by decide +kernel) (by decide +kernel)
theorem bw_271 : (.selects "FannedSites$Mesh" ⟨"FannedSites$Mesh", "size", "()I"⟩ ⟨"FannedSites$Mesh", "size", "()I"⟩ : Cond) ∈ BIG := big_of 271 (by decide +kernel) (by decide +kernel)
theorem bw_272 : (.code ⟨"FannedSites$Mesh", "size", "()I"⟩ prog_2_method_2_code 1 (some .int) : Cond) ∈ BIG := big_of 272 (by decide +kernel) (by decide +kernel)
theorem bw_277 : (.methodLink "FannedSites" 73 ⟨"FannedSites$Mesh", "has", "(I)Z"⟩ : Cond) ∈ BIG := big_of 277 (by decide +kernel) (by decide +kernel)
theorem bw_278 : (.instanceMethod ⟨"FannedSites$Mesh", "has", "(I)Z"⟩ : Cond) ∈ BIG := big_of 278 (by decide +kernel) (by decide +kernel)
theorem bw_279 : (.selects "FannedSites$Mesh" ⟨"FannedSites$Mesh", "has", "(I)Z"⟩ ⟨"FannedSites$Mesh", "has", "(I)Z"⟩ : Cond) ∈ BIG := big_of 279 (by decide +kernel) (by decide +kernel)
theorem bw_280 : (.code ⟨"FannedSites$Mesh", "has", "(I)Z"⟩ prog_2_method_3_code 2 (some .boolean) : Cond) ∈ BIG := big_of 280 (by decide +kernel) (by decide +kernel)
theorem bw_281 : (.methodLink "FannedSites" 74 ⟨"FannedSites$Mesh", "corner", "(II)I"⟩ : Cond) ∈ BIG := big_of 281 (by decide +kernel) (by decide +kernel)
theorem bw_282 : (.instanceMethod ⟨"FannedSites$Mesh", "corner", "(II)I"⟩ : Cond) ∈ BIG := big_of 282 (by decide +kernel) (by decide +kernel)
theorem bw_283 : (.selects "FannedSites$Mesh" ⟨"FannedSites$Mesh", "corner", "(II)I"⟩ ⟨"FannedSites$Mesh", "corner", "(II)I"⟩ : Cond) ∈ BIG := big_of 283 (by decide +kernel) (by decide +kernel)
theorem bw_284 : (.code ⟨"FannedSites$Mesh", "corner", "(II)I"⟩ prog_2_method_4_code 3 (some .int) : Cond) ∈ BIG := big_of 284 (by decide +kernel) (by decide +kernel)
theorem bw_289 : (.methodLink "FannedSites" 77 ⟨"FannedSites$Mesh", "cornerSet", "(I)I"⟩ : Cond) ∈ BIG := big_of 289 (by decide +kernel) (by decide +kernel)
theorem bw_290 : (.instanceMethod ⟨"FannedSites$Mesh", "cornerSet", "(I)I"⟩ : Cond) ∈ BIG := big_of 290 (by decide +kernel) (by decide +kernel)
theorem bw_291 : (.selects "FannedSites$Mesh" ⟨"FannedSites$Mesh", "cornerSet", "(I)I"⟩ ⟨"FannedSites$Mesh", "cornerSet", "(I)I"⟩ : Cond) ∈ BIG := big_of 291 (by decide +kernel) (by decide +kernel)
theorem bw_292 : (.code ⟨"FannedSites$Mesh", "cornerSet", "(I)I"⟩ prog_2_method_5_code 2 (some .int) : Cond) ∈ BIG := big_of 292 (by decide +kernel) (by decide +kernel)
theorem bw_293 : (.methodLink "FannedSites$Mesh" 37 ⟨"FannedSites$Mesh", "corner", "(II)I"⟩ : Cond) ∈ BIG := big_of 293 (by decide +kernel) (by decide +kernel)
theorem bw_302 : (.methodLink "FannedSites" 80 ⟨"FannedSites$Mesh", "faceSize", "(I)I"⟩ : Cond) ∈ BIG := big_of 302 (by decide +kernel) (by decide +kernel)
theorem bw_303 : (.instanceMethod ⟨"FannedSites$Mesh", "faceSize", "(I)I"⟩ : Cond) ∈ BIG := big_of 303 (by decide +kernel) (by decide +kernel)
theorem bw_304 : (.selects "FannedSites$Mesh" ⟨"FannedSites$Mesh", "faceSize", "(I)I"⟩ ⟨"FannedSites$Mesh", "faceSize", "(I)I"⟩ : Cond) ∈ BIG := big_of 304 (by decide +kernel) (by decide +kernel)
theorem bw_305 : (.code ⟨"FannedSites$Mesh", "faceSize", "(I)I"⟩ prog_2_method_6_code 2 (some .int) : Cond) ∈ BIG := big_of 305 (by decide +kernel) (by decide +kernel)
theorem bw_310 : (.methodLink "FannedSites" 83 ⟨"FannedSites", "covers", "(III)Z"⟩ : Cond) ∈ BIG := big_of 310 (by decide +kernel) (by decide +kernel)
theorem bw_312 : (.instanceMethod ⟨"FannedSites", "covers", "(III)Z"⟩ : Cond) ∈ BIG := big_of 312 (by decide +kernel) (by decide +kernel)
theorem bw_313 : (.code ⟨"FannedSites", "covers", "(III)Z"⟩ prog_1_method_19_code 7 (some .boolean) : Cond) ∈ BIG := big_of 313 (by decide +kernel) (by decide +kernel)
theorem bw_314 : (.methodLink "FannedSites" 120 ⟨"FannedSites$Points", "crossTo", "(IIII)J"⟩ : Cond) ∈ BIG := big_of 314 (by decide +kernel) (by decide +kernel)
theorem bw_319 : (.methodLink "FannedSites" 87 ⟨"FannedSites$Points", "squaredDistance", "(III)J"⟩ : Cond) ∈ BIG := big_of 319 (by decide +kernel) (by decide +kernel)
theorem bw_320 : (.instanceMethod ⟨"FannedSites$Points", "squaredDistance", "(III)J"⟩ : Cond) ∈ BIG := big_of 320 (by decide +kernel) (by decide +kernel)
theorem bw_321 : (.selects "FannedSites$Points" ⟨"FannedSites$Points", "squaredDistance", "(III)J"⟩ ⟨"FannedSites$Points", "squaredDistance", "(III)J"⟩ : Cond) ∈ BIG := big_of 321 (by decide +kernel) (by decide +kernel)
theorem bw_322 : (.code ⟨"FannedSites$Points", "squaredDistance", "(III)J"⟩ prog_4_method_12_code 8 (some .long) : Cond) ∈ BIG := big_of 322 (by decide +kernel) (by decide +kernel)
theorem bw_327 : (.methodLink "FannedSites" 91 ⟨"FannedSites$Mesh", "linkedTo", "(I)I"⟩ : Cond) ∈ BIG := big_of 327 (by decide +kernel) (by decide +kernel)
theorem bw_328 : (.instanceMethod ⟨"FannedSites$Mesh", "linkedTo", "(I)I"⟩ : Cond) ∈ BIG := big_of 328 (by decide +kernel) (by decide +kernel)
theorem bw_329 : (.selects "FannedSites$Mesh" ⟨"FannedSites$Mesh", "linkedTo", "(I)I"⟩ ⟨"FannedSites$Mesh", "linkedTo", "(I)I"⟩ : Cond) ∈ BIG := big_of 329 (by decide +kernel) (by decide +kernel)
theorem bw_330 : (.code ⟨"FannedSites$Mesh", "linkedTo", "(I)I"⟩ prog_2_method_7_code 2 (some .int) : Cond) ∈ BIG := big_of 330 (by decide +kernel) (by decide +kernel)
theorem bw_335 : (.methodLink "FannedSites" 94 ⟨"FannedSites$Outline", "size", "()I"⟩ : Cond) ∈ BIG := big_of 335 (by decide +kernel) (by decide +kernel)
theorem bw_336 : (.methodLink "FannedSites" 95 ⟨"FannedSites$Outline", "at", "(I)I"⟩ : Cond) ∈ BIG := big_of 336 (by decide +kernel) (by decide +kernel)
theorem bw_341 : (.methodLink "FannedSites" 98 ⟨"FannedSites$Points", "side", "(III)I"⟩ : Cond) ∈ BIG := big_of 341 (by decide +kernel) (by decide +kernel)
theorem bw_342 : (.methodLink "FannedSites" 102 ⟨"FannedSites$Points", "circleSide", "(IIII)I"⟩ : Cond) ∈ BIG := big_of 342 (by decide +kernel) (by decide +kernel)
theorem bw_347 : (.methodLink "FannedSites" 106 ⟨"FannedSites$Points", "doubleArea", "(III)J"⟩ : Cond) ∈ BIG := big_of 347 (by decide +kernel) (by decide +kernel)
theorem bw_348 : (.instanceMethod ⟨"FannedSites$Points", "doubleArea", "(III)J"⟩ : Cond) ∈ BIG := big_of 348 (by decide +kernel) (by decide +kernel)
theorem bw_349 : (.selects "FannedSites$Points" ⟨"FannedSites$Points", "doubleArea", "(III)J"⟩ ⟨"FannedSites$Points", "doubleArea", "(III)J"⟩ : Cond) ∈ BIG := big_of 349 (by decide +kernel) (by decide +kernel)
theorem bw_350 : (.code ⟨"FannedSites$Points", "doubleArea", "(III)J"⟩ prog_4_method_14_code 4 (some .long) : Cond) ∈ BIG := big_of 350 (by decide +kernel) (by decide +kernel)
theorem bw_357 : (.fieldLink "FannedSitesModel" 7 "FannedSitesModel" "there" "[Z" : Cond) ∈ BIG := big_of 357 (by decide +kernel) (by decide +kernel)
theorem bw_358 : (.fieldLink "FannedSitesModel" 13 "FannedSitesModel" "xs" "[I" : Cond) ∈ BIG := big_of 358 (by decide +kernel) (by decide +kernel)
theorem bw_359 : (.fieldLink "FannedSitesModel" 17 "FannedSitesModel" "ys" "[I" : Cond) ∈ BIG := big_of 359 (by decide +kernel) (by decide +kernel)
theorem bw_360 : (.fieldLink "FannedSitesModel" 42 "FannedSitesModel" "known" "Z" : Cond) ∈ BIG := big_of 360 (by decide +kernel) (by decide +kernel)
theorem bw_361 : (.fieldLink "FannedSitesModel" 75 "FannedSitesModel" "count" "I" : Cond) ∈ BIG := big_of 361 (by decide +kernel) (by decide +kernel)
theorem bw_362 : (.fieldLink "FannedSitesModel" 20 "FannedSitesModel" "first" "[I" : Cond) ∈ BIG := big_of 362 (by decide +kernel) (by decide +kernel)
theorem bw_363 : (.fieldLink "FannedSitesModel" 23 "FannedSitesModel" "second" "[I" : Cond) ∈ BIG := big_of 363 (by decide +kernel) (by decide +kernel)
theorem bw_364 : (.fieldLink "FannedSitesModel" 26 "FannedSitesModel" "third" "[I" : Cond) ∈ BIG := big_of 364 (by decide +kernel) (by decide +kernel)
theorem bw_365 : (.fieldLink "FannedSitesModel" 103 "FannedSitesModel" "round" "I" : Cond) ∈ BIG := big_of 365 (by decide +kernel) (by decide +kernel)
theorem bw_366 : (.fieldLink "FannedSitesModel" 29 "FannedSitesModel" "edge" "[I" : Cond) ∈ BIG := big_of 366 (by decide +kernel) (by decide +kernel)
theorem bw_392 : (.methodLink "FannedSitesModel" 34 ⟨"FannedSitesModel", "outside", "(II)Z"⟩ : Cond) ∈ BIG := big_of 392 (by decide +kernel) (by decide +kernel)
theorem bw_393 : (.static ⟨"FannedSitesModel", "outside", "(II)Z"⟩ : Cond) ∈ BIG := big_of 393 (by decide +kernel) (by decide +kernel)
theorem bw_394 : (.code ⟨"FannedSitesModel", "outside", "(II)Z"⟩ prog_6_method_3_code 2 (some .boolean) : Cond) ∈ BIG := big_of 394 (by decide +kernel) (by decide +kernel)
theorem bw_395 : (.constant "FannedSitesModel" 32 (-1000000) : Cond) ∈ BIG := big_of 395 (by decide +kernel) (by decide +kernel)
theorem bw_396 : (.constant "FannedSitesModel" 33 1000000 : Cond) ∈ BIG := big_of 396 (by decide +kernel) (by decide +kernel)
theorem bw_397 : (.methodLink "FannedSitesModel" 38 ⟨"FannedSitesModel", "siteAt", "(II)I"⟩ : Cond) ∈ BIG := big_of 397 (by decide +kernel) (by decide +kernel)
theorem bw_399 : (.instanceMethod ⟨"FannedSitesModel", "siteAt", "(II)I"⟩ : Cond) ∈ BIG := big_of 399 (by decide +kernel) (by decide +kernel)
theorem bw_400 : (.code ⟨"FannedSitesModel", "siteAt", "(II)I"⟩ prog_6_method_4_code 5 (some .int) : Cond) ∈ BIG := big_of 400 (by decide +kernel) (by decide +kernel)
theorem bw_405 : (.methodLink "FannedSitesModel" 46 ⟨"FannedSitesModel", "is", "(I)Z"⟩ : Cond) ∈ BIG := big_of 405 (by decide +kernel) (by decide +kernel)
theorem bw_407 : (.instanceMethod ⟨"FannedSitesModel", "is", "(I)Z"⟩ : Cond) ∈ BIG := big_of 407 (by decide +kernel) (by decide +kernel)
theorem bw_408 : (.code ⟨"FannedSitesModel", "is", "(I)Z"⟩ prog_6_method_2_code 2 (some .boolean) : Cond) ∈ BIG := big_of 408 (by decide +kernel) (by decide +kernel)
theorem bw_421 : (.constant "FannedSitesModel" 50 2000000 : Cond) ∈ BIG := big_of 421 (by decide +kernel) (by decide +kernel)
theorem bw_426 : (.methodLink "FannedSitesModel" 83 ⟨"FannedSitesModel", "work", "()V"⟩ : Cond) ∈ BIG := big_of 426 (by decide +kernel) (by decide +kernel)
theorem bw_428 : (.instanceMethod ⟨"FannedSitesModel", "work", "()V"⟩ : Cond) ∈ BIG := big_of 428 (by decide +kernel) (by decide +kernel)
theorem bw_429 : (.code ⟨"FannedSitesModel", "work", "()V"⟩ prog_6_method_17_code 4 (none : Option Jvm.ClassFile.FieldType) : Cond) ∈ BIG := big_of 429 (by decide +kernel) (by decide +kernel)
theorem bw_430 : (.methodLink "FannedSitesModel" 79 ⟨"FannedSitesModel", "isTriangle", "(III)Z"⟩ : Cond) ∈ BIG := big_of 430 (by decide +kernel) (by decide +kernel)
theorem bw_432 : (.instanceMethod ⟨"FannedSitesModel", "isTriangle", "(III)Z"⟩ : Cond) ∈ BIG := big_of 432 (by decide +kernel) (by decide +kernel)
theorem bw_433 : (.code ⟨"FannedSitesModel", "isTriangle", "(III)Z"⟩ prog_6_method_16_code 6 (some .boolean) : Cond) ∈ BIG := big_of 433 (by decide +kernel) (by decide +kernel)
theorem bw_434 : (.methodLink "FannedSitesModel" 65 ⟨"FannedSitesModel", "side", "(III)I"⟩ : Cond) ∈ BIG := big_of 434 (by decide +kernel) (by decide +kernel)
theorem bw_436 : (.instanceMethod ⟨"FannedSitesModel", "side", "(III)I"⟩ : Cond) ∈ BIG := big_of 436 (by decide +kernel) (by decide +kernel)
theorem bw_437 : (.code ⟨"FannedSitesModel", "side", "(III)I"⟩ prog_6_method_12_code 4 (some .int) : Cond) ∈ BIG := big_of 437 (by decide +kernel) (by decide +kernel)
theorem bw_438 : (.methodLink "FannedSitesModel" 51 ⟨"FannedSitesModel", "sideOf", "(IIII)I"⟩ : Cond) ∈ BIG := big_of 438 (by decide +kernel) (by decide +kernel)
theorem bw_440 : (.instanceMethod ⟨"FannedSitesModel", "sideOf", "(IIII)I"⟩ : Cond) ∈ BIG := big_of 440 (by decide +kernel) (by decide +kernel)
theorem bw_441 : (.code ⟨"FannedSitesModel", "sideOf", "(IIII)I"⟩ prog_6_method_11_code 7 (some .int) : Cond) ∈ BIG := big_of 441 (by decide +kernel) (by decide +kernel)
theorem bw_442 : (.methodLink "FannedSitesModel" 69 ⟨"FannedSitesModel", "earlier", "(II)Z"⟩ : Cond) ∈ BIG := big_of 442 (by decide +kernel) (by decide +kernel)
theorem bw_444 : (.instanceMethod ⟨"FannedSitesModel", "earlier", "(II)Z"⟩ : Cond) ∈ BIG := big_of 444 (by decide +kernel) (by decide +kernel)
theorem bw_445 : (.code ⟨"FannedSitesModel", "earlier", "(II)Z"⟩ prog_6_method_10_code 3 (some .boolean) : Cond) ∈ BIG := big_of 445 (by decide +kernel) (by decide +kernel)
theorem bw_446 : (.methodLink "FannedSitesModel" 72 ⟨"FannedSitesModel", "circle", "(IIII)I"⟩ : Cond) ∈ BIG := big_of 446 (by decide +kernel) (by decide +kernel)
theorem bw_448 : (.instanceMethod ⟨"FannedSitesModel", "circle", "(IIII)I"⟩ : Cond) ∈ BIG := big_of 448 (by decide +kernel) (by decide +kernel)
theorem bw_449 : (.code ⟨"FannedSitesModel", "circle", "(IIII)I"⟩ prog_6_method_15_code 17 (some .int) : Cond) ∈ BIG := big_of 449 (by decide +kernel) (by decide +kernel)
theorem bw_450 : (.methodLink "FannedSitesModel" 61 ⟨"FannedSitesModel", "sign", "(JJJJJJ)I"⟩ : Cond) ∈ BIG := big_of 450 (by decide +kernel) (by decide +kernel)
theorem bw_451 : (.static ⟨"FannedSitesModel", "sign", "(JJJJJJ)I"⟩ : Cond) ∈ BIG := big_of 451 (by decide +kernel) (by decide +kernel)
theorem bw_452 : (.code ⟨"FannedSitesModel", "sign", "(JJJJJJ)I"⟩ prog_6_method_14_code 19 (some .int) : Cond) ∈ BIG := big_of 452 (by decide +kernel) (by decide +kernel)
theorem bw_453 : (.methodLink "FannedSitesModel" 57 ⟨"FannedSitesModel", "low", "(J)J"⟩ : Cond) ∈ BIG := big_of 453 (by decide +kernel) (by decide +kernel)
theorem bw_454 : (.static ⟨"FannedSitesModel", "low", "(J)J"⟩ : Cond) ∈ BIG := big_of 454 (by decide +kernel) (by decide +kernel)
theorem bw_455 : (.code ⟨"FannedSitesModel", "low", "(J)J"⟩ prog_6_method_13_code 2 (some .long) : Cond) ∈ BIG := big_of 455 (by decide +kernel) (by decide +kernel)
theorem bw_456 : (.constantLong "FannedSitesModel" 55 4194303 : Cond) ∈ BIG := big_of 456 (by decide +kernel) (by decide +kernel)
theorem bw_465 : (.methodLink "FannedSitesModel" 86 ⟨"FannedSitesModel", "has", "(II)Z"⟩ : Cond) ∈ BIG := big_of 465 (by decide +kernel) (by decide +kernel)
theorem bw_467 : (.instanceMethod ⟨"FannedSitesModel", "has", "(II)Z"⟩ : Cond) ∈ BIG := big_of 467 (by decide +kernel) (by decide +kernel)
theorem bw_468 : (.code ⟨"FannedSitesModel", "has", "(II)Z"⟩ prog_6_method_20_code 3 (some .boolean) : Cond) ∈ BIG := big_of 468 (by decide +kernel) (by decide +kernel)
theorem bw_489 : (.methodLink "FannedSitesModel" 92 ⟨"FannedSitesModel", "flatNeighbours", "(I)I"⟩ : Cond) ∈ BIG := big_of 489 (by decide +kernel) (by decide +kernel)
theorem bw_491 : (.instanceMethod ⟨"FannedSitesModel", "flatNeighbours", "(I)I"⟩ : Cond) ∈ BIG := big_of 491 (by decide +kernel) (by decide +kernel)
theorem bw_492 : (.code ⟨"FannedSitesModel", "flatNeighbours", "(I)I"⟩ prog_6_method_27_code 5 (some .int) : Cond) ∈ BIG := big_of 492 (by decide +kernel) (by decide +kernel)
theorem bw_493 : (.methodLink "FannedSitesModel" 96 ⟨"FannedSitesModel", "link", "(IIII)I"⟩ : Cond) ∈ BIG := big_of 493 (by decide +kernel) (by decide +kernel)
theorem bw_495 : (.instanceMethod ⟨"FannedSitesModel", "link", "(IIII)I"⟩ : Cond) ∈ BIG := big_of 495 (by decide +kernel) (by decide +kernel)
theorem bw_496 : (.code ⟨"FannedSitesModel", "link", "(IIII)I"⟩ prog_6_method_28_code 6 (some .int) : Cond) ∈ BIG := big_of 496 (by decide +kernel) (by decide +kernel)
theorem bw_497 : (.methodLink "FannedSitesModel" 89 ⟨"FannedSitesModel", "follow", "(III)Z"⟩ : Cond) ∈ BIG := big_of 497 (by decide +kernel) (by decide +kernel)
theorem bw_499 : (.instanceMethod ⟨"FannedSitesModel", "follow", "(III)Z"⟩ : Cond) ∈ BIG := big_of 499 (by decide +kernel) (by decide +kernel)
theorem bw_500 : (.code ⟨"FannedSitesModel", "follow", "(III)Z"⟩ prog_6_method_26_code 6 (some .boolean) : Cond) ∈ BIG := big_of 500 (by decide +kernel) (by decide +kernel)
theorem bw_505 : (.methodLink "FannedSitesModel" 116 ⟨"FannedSitesModel", "goRound", "()V"⟩ : Cond) ∈ BIG := big_of 505 (by decide +kernel) (by decide +kernel)
theorem bw_507 : (.instanceMethod ⟨"FannedSitesModel", "goRound", "()V"⟩ : Cond) ∈ BIG := big_of 507 (by decide +kernel) (by decide +kernel)
theorem bw_508 : (.code ⟨"FannedSitesModel", "goRound", "()V"⟩ prog_6_method_34_code 3 (none : Option Jvm.ClassFile.FieldType) : Cond) ∈ BIG := big_of 508 (by decide +kernel) (by decide +kernel)
theorem bw_509 : (.methodLink "FannedSitesModel" 106 ⟨"FannedSitesModel", "earliest", "()I"⟩ : Cond) ∈ BIG := big_of 509 (by decide +kernel) (by decide +kernel)
theorem bw_511 : (.instanceMethod ⟨"FannedSitesModel", "earliest", "()I"⟩ : Cond) ∈ BIG := big_of 511 (by decide +kernel) (by decide +kernel)
theorem bw_512 : (.code ⟨"FannedSitesModel", "earliest", "()I"⟩ prog_6_method_30_code 3 (some .int) : Cond) ∈ BIG := big_of 512 (by decide +kernel) (by decide +kernel)
theorem bw_513 : (.methodLink "FannedSitesModel" 110 ⟨"FannedSitesModel", "later", "(I)I"⟩ : Cond) ∈ BIG := big_of 513 (by decide +kernel) (by decide +kernel)
theorem bw_515 : (.instanceMethod ⟨"FannedSitesModel", "later", "(I)I"⟩ : Cond) ∈ BIG := big_of 515 (by decide +kernel) (by decide +kernel)
theorem bw_516 : (.code ⟨"FannedSitesModel", "later", "(I)I"⟩ prog_6_method_33_code 4 (some .int) : Cond) ∈ BIG := big_of 516 (by decide +kernel) (by decide +kernel)
theorem bw_517 : (.methodLink "FannedSitesModel" 113 ⟨"FannedSitesModel", "onward", "(I)I"⟩ : Cond) ∈ BIG := big_of 517 (by decide +kernel) (by decide +kernel)
theorem bw_519 : (.instanceMethod ⟨"FannedSitesModel", "onward", "(I)I"⟩ : Cond) ∈ BIG := big_of 519 (by decide +kernel) (by decide +kernel)
theorem bw_520 : (.code ⟨"FannedSitesModel", "onward", "(I)I"⟩ prog_6_method_32_code 6 (some .int) : Cond) ∈ BIG := big_of 520 (by decide +kernel) (by decide +kernel)
theorem bw_521 : (.methodLink "FannedSitesModel" 99 ⟨"FannedSitesModel", "distance", "(II)J"⟩ : Cond) ∈ BIG := big_of 521 (by decide +kernel) (by decide +kernel)
theorem bw_523 : (.instanceMethod ⟨"FannedSitesModel", "distance", "(II)J"⟩ : Cond) ∈ BIG := big_of 523 (by decide +kernel) (by decide +kernel)
theorem bw_524 : (.code ⟨"FannedSitesModel", "distance", "(II)J"⟩ prog_6_method_31_code 7 (some .long) : Cond) ∈ BIG := big_of 524 (by decide +kernel) (by decide +kernel)
end
section
/-! What every walk here stands on: my own short words over the kit's rows. -/
def cx (p : Program) (s : State) (m : MethodId) (args : Array Value) (meth : Method) (c : Code) (cc : ByteArray) (ret : Option FieldType) (nL : Nat) (own : String) : Prop := p.tables.exec = Jvm.exec ∧ c.code = cc ∧ meth.sig.returnType = ret ∧ c.maxLocals = nL ∧ (∀ w ∈ BIG, w.before args s = true) ∧ s.vm.findClass own = some m.cls ∧ meth.locks = false
abbrev kT (cI cZ : ClassId) : List (ClassId × FieldType) := [(cI, .int), (cZ, .boolean)]
/-- what the walks know of the tables: the classes, the two kinds of rows, the links to nest mates' private members -/
def gK (dC : Nat → ClassId) (dI : Nat → Nat → Nat) (cI cZ : ClassId) (U : State) : Prop := va_K (dC, dI) vwCl (kT cI cZ) U ∧ ∀ w ∈ nws, va_Nw w U
theorem gK.moved {dC : Nat → ClassId} {dI : Nat → Nat → Nat} {cI cZ : ClassId} {s U : State} (hW : s.WarmedH U.vm) (h : gK dC dI cI cZ s) : gK dC dI cI cZ U :=
  ⟨va_K.moved hW.alike h.1, fun w hw => by obtain ⟨a, i, x, hh, rfl⟩ := nws_form w hw; exact va_Nw.warmM hW (h.2 _ hw)⟩
theorem gK.calling {dC : Nat → ClassId} {dI : Nat → Nat → Nat} {cI cZ : ClassId} {U : State} {g : JFrame} {mk : MethodId} {a : Array Value} (h : gK dC dI cI cZ U) : gK dC dI cI cZ (U.calling g mk a) :=
  ⟨va_K.moved (u := U) (U := U.calling g mk a) (Vm.Alike.refl U.vm) h.1, fun w hw => by obtain ⟨b, i, x, hh, rfl⟩ := nws_form w hw; exact va_Nw.same (u := U) rfl rfl (h.2 _ hw)⟩
abbrev PcR (dC : Nat → ClassId) (dI : Nat → Nat → Nat) (cI cZ : ClassId) (av : List Value) (ws : va_W) : Array Value → State → Prop := va_Pc av (fun U => va_P (dC, dI) vwCl ws U.heap ∧ gK dC dI cI cZ U)
abbrev PcW (dC : Nat → ClassId) (dI : Nat → Nat → Nat) (cI cZ : ClassId) (av : List Value) (ws : va_W) (sz : Nat) : Array Value → State → Prop := va_Pc av (fun U => U.heap.size = sz ∧ va_P (dC, dI) vwCl ws U.heap ∧ gK dC dI cI cZ U ∧ va_D (fun _ => True) ws)
abbrev QwI (dC : Nat → ClassId) (dI : Nat → Nat → Nat) (A : Nat → Prop) (w : va_W) (rv : Int32) : Array Value → State → Outcome → State → Prop := va_Qi (S := Unit) (fun r _ => r = rv) (fun _ t => va_P (dC, dI) vwCl w t.heap ∧ va_D A w) A
abbrev QwL (dC : Nat → ClassId) (dI : Nat → Nat → Nat) (A : Nat → Prop) (w : va_W) (rv : Int64) : Array Value → State → Outcome → State → Prop := va_Ql (S := Unit) (fun r _ => r = rv) (fun _ t => va_P (dC, dI) vwCl w t.heap ∧ va_D A w) A
abbrev QwV (dC : Nat → ClassId) (dI : Nat → Nat → Nat) (A : Nat → Prop) (w : va_W) : Array Value → State → Outcome → State → Prop := va_Qv (S := Unit) (fun _ => True) (fun _ t => va_P (dC, dI) vwCl w t.heap ∧ va_D A w) A
/-- a place of a row of n -/
def ix (i : Int32) (n : Nat) : Bool := decide (0 ≤ i.toInt ∧ i.toInt < (n : Int))
abbrev z01 (x : Int32) : Prop := x = 0 ∨ x = 1
theorem ix_in {i : Int32} {n : Nat} (h : ix i n = true) : vp_in i n := vp_in_iff.mpr (of_decide_eq_true h)
theorem z01_n {x : Int32} (h : z01 x) : narrow .boolean (.int x) = .int x := by rcases h with rfl | rfl <;> rfl
theorem z01_f {x : Int32} (h : z01 x) : fits .boolean (.int x) = true := by rcases h with rfl | rfl <;> rfl
theorem o_t {α : Type} {c : Prop} {ic : Decidable c} {a b : Option α} {r : α} (h : (@ite _ c ic a b) = some r) (hc : c) : a = some r := by rw [if_pos hc] at h; exact h
theorem o_f {α : Type} {c : Prop} {ic : Decidable c} {a b : Option α} {r : α} (h : (@ite _ c ic a b) = some r) (hc : ¬ c) : b = some r := by rw [if_neg hc] at h; exact h
theorem o_g {α : Type} {c : Prop} {ic : Decidable c} {a : Option α} {r : α} (h : (@ite _ c ic a none) = some r) : c ∧ a = some r := by
  by_cases hc : c
  · rw [if_pos hc] at h; exact ⟨hc, h⟩
  · rw [if_neg hc] at h; cases h
theorem o_z {α : Type} {c : Prop} {ic : Decidable c} {a : Option α} {r : α} (h : (@ite _ c ic none a) = some r) : ¬ c ∧ a = some r := by
  by_cases hc : c
  · rw [if_pos hc] at h; cases h
  · rw [if_neg hc] at h; exact ⟨hc, h⟩
theorem o_i {α : Type} {i : Int32} {n : Nat} {a : Option α} {r : α} (h : (if ix i n then a else none) = some r) : vp_in i n ∧ a = some r := ⟨ix_in (o_g h).1, (o_g h).2⟩
theorem o_n {α : Type} {r : α} (h : (none : Option α) = some r) : False := by cases h
theorem o_b {α β : Type} {o : Option α} {k : α → Option β} {r : β} (h : o.bind k = some r) : ∃ v, o = some v ∧ k v = some r := by
  cases o with
  | none => cases h
  | some v => exact ⟨v, rfl, h⟩
section Rows
variable {p : Program} {l : Launch} {e : Env} {R : Room} {s : State} {m : MethodId} {args : Array Value} {below : List Frame} {meth : Method} {c : Code} {H H0 : Heap} {locs : List Loc} {cells slots : Nat} {Q : State → Prop} {cc : ByteArray} {pc : Nat} {ls : Array Slot} {dC : Nat → ClassId} {dI : Nat → Nat → Nat} {cI cZ : ClassId} {A A0 : Nat → Prop}
theorem rr_i {v : Int32} (hx : p.tables.exec = Jvm.exec) (hb : c.code = cc) (hr : meth.sig.returnType = some .int) (hlocks : meth.locks = false) (hdg : decode cc pc = .ok (.ireturn, 1)) : W p l e R s m args below meth c s.heap [] cells slots (MQ below (vp_Si (fun r => r = v)) args s cells slots (fun _ => False)) (F0 m pc ls [.int v]) :=
  W.iret hx hb hr (fun _ ht _ => ⟨v, rfl, rfl, ht⟩) (fun _ h => absurd h List.not_mem_nil) hdg hlocks
theorem rr_z {v : Int32} {ty : FieldType} (hx : p.tables.exec = Jvm.exec) (hb : c.code = cc) (hr : meth.sig.returnType = some ty) (hlocks : meth.locks = false) (hn : narrow ty (.int v) = .int v) (hdg : decode cc pc = .ok (.ireturn, 1)) : W p l e R s m args below meth c s.heap [] cells slots (MQ below (vp_Si (fun r => r = v)) args s cells slots (fun _ => False)) (F0 m pc ls [.int v]) :=
  W.zret hx hb hr hn (fun _ ht _ => ⟨v, rfl, rfl, ht⟩) (fun _ h => absurd h List.not_mem_nil) hdg hlocks
theorem rr_l {v : Int64} (hx : p.tables.exec = Jvm.exec) (hb : c.code = cc) (hr : meth.sig.returnType = some .long) (hlocks : meth.locks = false) (hdg : decode cc pc = .ok (.lreturn, 1)) : W p l e R s m args below meth c s.heap [] cells slots (MQ below (vp_Sl (fun r => r = v)) args s cells slots (fun _ => False)) (F0 m pc ls [.long v]) :=
  W.lret hx hb hr (fun _ ht _ => ⟨v, rfl, rfl, ht⟩) (fun _ h => absurd h List.not_mem_nil) hdg hlocks
theorem wr_i {v : Int32} {w : va_W} (hx : p.tables.exec = Jvm.exec) (hb : c.code = cc) (hr : meth.sig.returnType = some .int) (hlocks : meth.locks = false) (hP : va_P (dC, dI) vwCl w H) (hD : va_D A w) (hS : va_S A s.heap H locs) (hdg : decode cc pc = .ok (.ireturn, 1)) : W p l e R s m args below meth c H locs cells slots (MQ below (QwI dC dI A w v) args s cells slots A) (F0 m pc ls [.int v]) :=
  W.iret hx hb hr (fun _ ht _ => ⟨⟨v, (), rfl, rfl, by rw [ht]; exact hP, hD⟩, hS.F ht⟩) hS.2.2 hdg hlocks
theorem wr_z {v : Int32} {ty : FieldType} {w : va_W} (hx : p.tables.exec = Jvm.exec) (hb : c.code = cc) (hr : meth.sig.returnType = some ty) (hlocks : meth.locks = false) (hn : narrow ty (.int v) = .int v) (hP : va_P (dC, dI) vwCl w H) (hD : va_D A w) (hS : va_S A s.heap H locs) (hdg : decode cc pc = .ok (.ireturn, 1)) : W p l e R s m args below meth c H locs cells slots (MQ below (QwI dC dI A w v) args s cells slots A) (F0 m pc ls [.int v]) :=
  W.zret hx hb hr hn (fun _ ht _ => ⟨⟨v, (), rfl, rfl, by rw [ht]; exact hP, hD⟩, hS.F ht⟩) hS.2.2 hdg hlocks
theorem wr_l {v : Int64} {w : va_W} (hx : p.tables.exec = Jvm.exec) (hb : c.code = cc) (hr : meth.sig.returnType = some .long) (hlocks : meth.locks = false) (hP : va_P (dC, dI) vwCl w H) (hD : va_D A w) (hS : va_S A s.heap H locs) (hdg : decode cc pc = .ok (.lreturn, 1)) : W p l e R s m args below meth c H locs cells slots (MQ below (QwL dC dI A w v) args s cells slots A) (F0 m pc ls [.long v]) :=
  W.lret hx hb hr (fun _ ht _ => ⟨⟨v, (), rfl, rfl, by rw [ht]; exact hP, hD⟩, hS.F ht⟩) hS.2.2 hdg hlocks
theorem wr_v {w : va_W} (hx : p.tables.exec = Jvm.exec) (hb : c.code = cc) (hr : meth.sig.returnType = none) (hlocks : meth.locks = false) (hP : va_P (dC, dI) vwCl w H) (hD : va_D A w) (hS : va_S A s.heap H locs) (hdg : decode cc pc = .ok (.return_, 1)) : W p l e R s m args below meth c H locs cells slots (MQ below (QwV dC dI A w) args s cells slots A) (F0 m pc ls []) :=
  W.vret hx hb hr (fun _ ht _ => ⟨⟨(), rfl, trivial, by rw [ht]; exact hP, hD⟩, hS.F ht⟩) hS.2.2 hdg hlocks
theorem rc_i {v : Int32} {a : Array Value} {st0 rest : List Value} (hr : va_Run p l e R s m args below meth c H locs cells slots 0 0 (F0 m pc ls st0) rest (vp_Si (fun r => r = v) a) (fun _ => False)) (kk : W p l e R s m args below meth c H locs cells slots Q (F0 m (pc + 3) ls (.int v :: rest))) : W p l e R s m args below meth c H locs cells slots Q (F0 m pc ls st0) :=
  vp_callSi hr.run (fun r h => by rw [h]; exact kk)
theorem rc_l {v : Int64} {a : Array Value} {st0 rest : List Value} (hr : va_Run p l e R s m args below meth c H locs cells slots 0 0 (F0 m pc ls st0) rest (vp_Sl (fun r => r = v) a) (fun _ => False)) (kk : W p l e R s m args below meth c H locs cells slots Q (F0 m (pc + 3) ls (.long v :: rest))) : W p l e R s m args below meth c H locs cells slots Q (F0 m pc ls st0) :=
  vp_callSl hr.run (fun r h => by rw [h]; exact kk)
theorem wc_i {v : Int32} {a : Array Value} {st0 rest : List Value} {ws wc wr w1 : va_W} (hr : va_Run p l e R s m args below meth c H locs cells slots 0 0 (F0 m pc ls st0) rest (QwI dC dI (va_A wc H.size) w1 v a) (va_A wc H.size)) (hP : va_P (dC, dI) vwCl ws H) (hD : va_D A0 ws) (hS : va_S A0 H0 H locs) (hA : ∀ q, H0.size ≤ q → A0 q) (isC isR : List Nat) (hC : isC.map (fun i => ws[i]?) = wc.map some) (hR : isR.map (fun i => ws[i]?) = wr.map some) (hn : va_nd isR = true) (hdis : ∀ i ∈ isR, i ∉ isC)
    (kk : ∀ (H1 : Heap) (locs1 : List Loc), va_P (dC, dI) vwCl (wr ++ w1) H1 → va_D A0 (wr ++ w1) → va_S A0 H0 H1 locs1 → W p l e R s m args below meth c H1 locs1 cells slots Q (F0 m (pc + 3) ls (.int v :: rest))) : W p l e R s m args below meth c H locs cells slots Q (F0 m pc ls st0) := by
  have hF := va_free hD hS hA isC hC
  refine va_calli hr hS (fun q _ h => hF q h) hF (fun r u t H1 locs1 ht hvm hw hB hz hk hS1 => ?_)
  obtain ⟨hP1, hD1⟩ := hB
  rw [ht] at hP1
  obtain ⟨hP2, hD2⟩ := va_join hP hD isC isR hC hR hn hdis hk hF hP1 hD1
  rw [hw]
  exact kk H1 locs1 hP2 hD2 hS1
theorem wc_l {v : Int64} {a : Array Value} {st0 rest : List Value} {ws wc wr w1 : va_W} (hr : va_Run p l e R s m args below meth c H locs cells slots 0 0 (F0 m pc ls st0) rest (QwL dC dI (va_A wc H.size) w1 v a) (va_A wc H.size)) (hP : va_P (dC, dI) vwCl ws H) (hD : va_D A0 ws) (hS : va_S A0 H0 H locs) (hA : ∀ q, H0.size ≤ q → A0 q) (isC isR : List Nat) (hC : isC.map (fun i => ws[i]?) = wc.map some) (hR : isR.map (fun i => ws[i]?) = wr.map some) (hn : va_nd isR = true) (hdis : ∀ i ∈ isR, i ∉ isC)
    (kk : ∀ (H1 : Heap) (locs1 : List Loc), va_P (dC, dI) vwCl (wr ++ w1) H1 → va_D A0 (wr ++ w1) → va_S A0 H0 H1 locs1 → W p l e R s m args below meth c H1 locs1 cells slots Q (F0 m (pc + 3) ls (.long v :: rest))) : W p l e R s m args below meth c H locs cells slots Q (F0 m pc ls st0) := by
  have hF := va_free hD hS hA isC hC
  refine va_calll hr hS (fun q _ h => hF q h) hF (fun r u t H1 locs1 ht hvm hw hB hz hk hS1 => ?_)
  obtain ⟨hP1, hD1⟩ := hB
  rw [ht] at hP1
  obtain ⟨hP2, hD2⟩ := va_join hP hD isC isR hC hR hn hdis hk hF hP1 hD1
  rw [hw]
  exact kk H1 locs1 hP2 hD2 hS1
theorem wc_v {a : Array Value} {st0 rest : List Value} {ws wc wr w1 : va_W} (hr : va_Run p l e R s m args below meth c H locs cells slots 0 0 (F0 m pc ls st0) rest (QwV dC dI (va_A wc H.size) w1 a) (va_A wc H.size)) (hP : va_P (dC, dI) vwCl ws H) (hD : va_D A0 ws) (hS : va_S A0 H0 H locs) (hA : ∀ q, H0.size ≤ q → A0 q) (isC isR : List Nat) (hC : isC.map (fun i => ws[i]?) = wc.map some) (hR : isR.map (fun i => ws[i]?) = wr.map some) (hn : va_nd isR = true) (hdis : ∀ i ∈ isR, i ∉ isC)
    (kk : ∀ (H1 : Heap) (locs1 : List Loc), va_P (dC, dI) vwCl (wr ++ w1) H1 → va_D A0 (wr ++ w1) → va_S A0 H0 H1 locs1 → W p l e R s m args below meth c H1 locs1 cells slots Q (F0 m (pc + 3) ls rest)) : W p l e R s m args below meth c H locs cells slots Q (F0 m pc ls st0) := by
  have hF := va_free hD hS hA isC hC
  refine va_callv hr hS (fun q _ h => hF q h) hF (fun u t H1 locs1 ht hvm hw hB hz hk hS1 => ?_)
  obtain ⟨hP1, hD1⟩ := hB
  rw [ht] at hP1
  obtain ⟨hP2, hD2⟩ := va_join hP hD isC isR hC hR hn hdis hk hF hP1 hD1
  exact kk H1 locs1 hP2 hD2 hS1
theorem pv_r {ws wc : va_W} {b ci : Nat} {q : vw_C} {fs : List Value} {As : List Value} (hK : gK dC dI cI cZ s) (hP : va_P (dC, dI) vwCl ws H) (is : List Nat) (hs : is.filterMap (fun i => ws[i]?) = wc) (q0 : Nat) (hc : vwCl[ci]? = some q) (he : wc[q0]? = some (b, .inr (ci, fs))) : PreV s H q.1 b (PcR dC dI cI cZ (.ref b :: As) wc) As :=
  ⟨fun a U g mk h => ⟨h.1, h.2.1, h.2.2.calling⟩, va_recv hK.1 (hP.sub is hs) hc he, fun U hU hW => ⟨rfl, by rw [hU]; exact hP.sub is hs, hK.moved hW⟩⟩
theorem pv_w {ws wc : va_W} {b ci : Nat} {q : vw_C} {fs : List Value} {As : List Value} (hK : gK dC dI cI cZ s) (hP : va_P (dC, dI) vwCl ws H) (hD : va_D A ws) (is : List Nat) (hs : is.filterMap (fun i => ws[i]?) = wc) (hs2 : is.map (fun i => ws[i]?) = wc.map some) (hn : va_nd is = true) (q0 : Nat) (hc : vwCl[ci]? = some q) (he : wc[q0]? = some (b, .inr (ci, fs))) : PreV s H q.1 b (PcW dC dI cI cZ (.ref b :: As) wc H.size) As :=
  ⟨fun a U g mk h => ⟨h.1, h.2.1, h.2.2.1, h.2.2.2.1.calling, h.2.2.2.2⟩, va_recv hK.1 (hP.sub is hs) hc he, fun U hU hW => ⟨rfl, by rw [hU], by rw [hU]; exact hP.sub is hs, hK.moved hW, (hD.sub is hn hs2).weaken (fun _ _ _ _ => trivial)⟩⟩
theorem ps_r {ws wc : va_W} {As : List Value} (hK : gK dC dI cI cZ s) (hP : va_P (dC, dI) vwCl ws H) (is : List Nat) (hs : is.filterMap (fun i => ws[i]?) = wc) : PreS s H (PcR dC dI cI cZ As wc) As :=
  ⟨fun a U g mk h => ⟨h.1, h.2.1, h.2.2.calling⟩, fun U hU hW => ⟨rfl, by rw [hU]; exact hP.sub is hs, hK.moved hW⟩⟩
theorem ps_w {ws wc : va_W} {As : List Value} (hK : gK dC dI cI cZ s) (hP : va_P (dC, dI) vwCl ws H) (hD : va_D A ws) (is : List Nat) (hs : is.filterMap (fun i => ws[i]?) = wc) (hs2 : is.map (fun i => ws[i]?) = wc.map some) (hn : va_nd is = true) : PreS s H (PcW dC dI cI cZ As wc H.size) As :=
  ⟨fun a U g mk h => ⟨h.1, h.2.1, h.2.2.1, h.2.2.2.1.calling, h.2.2.2.2⟩, fun U hU hW => ⟨rfl, by rw [hU], by rw [hU]; exact hP.sub is hs, hK.moved hW, (hD.sub is hn hs2).weaken (fun _ _ _ _ => trivial)⟩⟩
end Rows
end
section
theorem d_P_init_0 : decode b_P_init 0 = .ok (.aload_n 0, 1) := by decide +kernel
theorem d_P_init_1 : decode b_P_init 1 = .ok (.invokespecial 3, 3) := by decide +kernel
theorem d_P_init_4 : decode b_P_init 4 = .ok (.aload_n 0, 1) := by decide +kernel
theorem d_P_init_5 : decode b_P_init 5 = .ok (.bipush 20, 2) := by decide +kernel
theorem d_P_init_7 : decode b_P_init 7 = .ok (.newarray .int, 2) := by decide +kernel
theorem d_P_init_9 : decode b_P_init 9 = .ok (.putfield 9, 3) := by decide +kernel
theorem d_P_init_12 : decode b_P_init 12 = .ok (.aload_n 0, 1) := by decide +kernel
theorem d_P_init_13 : decode b_P_init 13 = .ok (.bipush 20, 2) := by decide +kernel
theorem d_P_init_15 : decode b_P_init 15 = .ok (.newarray .int, 2) := by decide +kernel
theorem d_P_init_17 : decode b_P_init 17 = .ok (.putfield 15, 3) := by decide +kernel
theorem d_P_init_20 : decode b_P_init 20 = .ok (.aload_n 0, 1) := by decide +kernel
theorem d_P_init_21 : decode b_P_init 21 = .ok (.bipush 20, 2) := by decide +kernel
theorem d_P_init_23 : decode b_P_init 23 = .ok (.newarray .boolean, 2) := by decide +kernel
theorem d_P_init_25 : decode b_P_init 25 = .ok (.putfield 18, 3) := by decide +kernel
theorem d_P_init_28 : decode b_P_init 28 = .ok (.aload_n 0, 1) := by decide +kernel
theorem d_P_init_29 : decode b_P_init 29 = .ok (.bipush 20, 2) := by decide +kernel
theorem d_P_init_31 : decode b_P_init 31 = .ok (.newarray .int, 2) := by decide +kernel
theorem d_P_init_33 : decode b_P_init 33 = .ok (.putfield 22, 3) := by decide +kernel
theorem d_P_init_36 : decode b_P_init 36 = .ok (.aload_n 0, 1) := by decide +kernel
theorem d_P_init_37 : decode b_P_init 37 = .ok (.iconst 0, 1) := by decide +kernel
theorem d_P_init_38 : decode b_P_init 38 = .ok (.putfield 25, 3) := by decide +kernel
theorem d_P_init_41 : decode b_P_init 41 = .ok (.return_, 1) := by decide +kernel
theorem d_P_size_0 : decode b_P_size 0 = .ok (.aload_n 0, 1) := by decide +kernel
theorem d_P_size_1 : decode b_P_size 1 = .ok (.getfield 25, 3) := by decide +kernel
theorem d_P_size_4 : decode b_P_size 4 = .ok (.ireturn, 1) := by decide +kernel
theorem d_P_has_0 : decode b_P_has 0 = .ok (.iload_n 1, 1) := by decide +kernel
theorem d_P_has_1 : decode b_P_has 1 = .ok (.ifCond .lt 22, 3) := by decide +kernel
theorem d_P_has_4 : decode b_P_has 4 = .ok (.iload_n 1, 1) := by decide +kernel
theorem d_P_has_5 : decode b_P_has 5 = .ok (.bipush 20, 2) := by decide +kernel
theorem d_P_has_7 : decode b_P_has 7 = .ok (.if_icmp .ge 16, 3) := by decide +kernel
theorem d_P_has_10 : decode b_P_has 10 = .ok (.aload_n 0, 1) := by decide +kernel
theorem d_P_has_11 : decode b_P_has 11 = .ok (.getfield 18, 3) := by decide +kernel
theorem d_P_has_14 : decode b_P_has 14 = .ok (.iload_n 1, 1) := by decide +kernel
theorem d_P_has_15 : decode b_P_has 15 = .ok (.baload, 1) := by decide +kernel
theorem d_P_has_16 : decode b_P_has 16 = .ok (.ifCond .eq 7, 3) := by decide +kernel
theorem d_P_has_19 : decode b_P_has 19 = .ok (.iconst 1, 1) := by decide +kernel
theorem d_P_has_20 : decode b_P_has 20 = .ok (.goto 4, 3) := by decide +kernel
theorem d_P_has_23 : decode b_P_has 23 = .ok (.iconst 0, 1) := by decide +kernel
theorem d_P_has_24 : decode b_P_has 24 = .ok (.ireturn, 1) := by decide +kernel
theorem d_P_x_0 : decode b_P_x 0 = .ok (.aload_n 0, 1) := by decide +kernel
theorem d_P_x_1 : decode b_P_x 1 = .ok (.getfield 9, 3) := by decide +kernel
theorem d_P_x_4 : decode b_P_x 4 = .ok (.iload_n 1, 1) := by decide +kernel
theorem d_P_x_5 : decode b_P_x 5 = .ok (.iaload, 1) := by decide +kernel
theorem d_P_x_6 : decode b_P_x 6 = .ok (.ireturn, 1) := by decide +kernel
theorem d_P_y_0 : decode b_P_y 0 = .ok (.aload_n 0, 1) := by decide +kernel
theorem d_P_y_1 : decode b_P_y 1 = .ok (.getfield 15, 3) := by decide +kernel
theorem d_P_y_4 : decode b_P_y 4 = .ok (.iload_n 1, 1) := by decide +kernel
theorem d_P_y_5 : decode b_P_y 5 = .ok (.iaload, 1) := by decide +kernel
theorem d_P_y_6 : decode b_P_y 6 = .ok (.ireturn, 1) := by decide +kernel
theorem d_P_inOrder_0 : decode b_P_inOrder 0 = .ok (.aload_n 0, 1) := by decide +kernel
theorem d_P_inOrder_1 : decode b_P_inOrder 1 = .ok (.getfield 22, 3) := by decide +kernel
theorem d_P_inOrder_4 : decode b_P_inOrder 4 = .ok (.iload_n 1, 1) := by decide +kernel
theorem d_P_inOrder_5 : decode b_P_inOrder 5 = .ok (.iaload, 1) := by decide +kernel
theorem d_P_inOrder_6 : decode b_P_inOrder 6 = .ok (.ireturn, 1) := by decide +kernel
theorem d_P_slotAt_0 : decode b_P_slotAt 0 = .ok (.iconst 0, 1) := by decide +kernel
theorem d_P_slotAt_1 : decode b_P_slotAt 1 = .ok (.istore_n 3, 1) := by decide +kernel
theorem d_P_slotAt_2 : decode b_P_slotAt 2 = .ok (.iload_n 3, 1) := by decide +kernel
theorem d_P_slotAt_3 : decode b_P_slotAt 3 = .ok (.bipush 20, 2) := by decide +kernel
theorem d_P_slotAt_5 : decode b_P_slotAt 5 = .ok (.if_icmp .ge 40, 3) := by decide +kernel
theorem d_P_slotAt_8 : decode b_P_slotAt 8 = .ok (.aload_n 0, 1) := by decide +kernel
theorem d_P_slotAt_9 : decode b_P_slotAt 9 = .ok (.getfield 18, 3) := by decide +kernel
theorem d_P_slotAt_12 : decode b_P_slotAt 12 = .ok (.iload_n 3, 1) := by decide +kernel
theorem d_P_slotAt_13 : decode b_P_slotAt 13 = .ok (.baload, 1) := by decide +kernel
theorem d_P_slotAt_14 : decode b_P_slotAt 14 = .ok (.ifCond .eq 25, 3) := by decide +kernel
theorem d_P_slotAt_17 : decode b_P_slotAt 17 = .ok (.aload_n 0, 1) := by decide +kernel
theorem d_P_slotAt_18 : decode b_P_slotAt 18 = .ok (.getfield 9, 3) := by decide +kernel
theorem d_P_slotAt_21 : decode b_P_slotAt 21 = .ok (.iload_n 3, 1) := by decide +kernel
theorem d_P_slotAt_22 : decode b_P_slotAt 22 = .ok (.iaload, 1) := by decide +kernel
theorem d_P_slotAt_23 : decode b_P_slotAt 23 = .ok (.iload_n 1, 1) := by decide +kernel
theorem d_P_slotAt_24 : decode b_P_slotAt 24 = .ok (.if_icmp .ne 15, 3) := by decide +kernel
theorem d_P_slotAt_27 : decode b_P_slotAt 27 = .ok (.aload_n 0, 1) := by decide +kernel
theorem d_P_slotAt_28 : decode b_P_slotAt 28 = .ok (.getfield 15, 3) := by decide +kernel
theorem d_P_slotAt_31 : decode b_P_slotAt 31 = .ok (.iload_n 3, 1) := by decide +kernel
theorem d_P_slotAt_32 : decode b_P_slotAt 32 = .ok (.iaload, 1) := by decide +kernel
theorem d_P_slotAt_33 : decode b_P_slotAt 33 = .ok (.iload_n 2, 1) := by decide +kernel
theorem d_P_slotAt_34 : decode b_P_slotAt 34 = .ok (.if_icmp .ne 5, 3) := by decide +kernel
theorem d_P_slotAt_37 : decode b_P_slotAt 37 = .ok (.iload_n 3, 1) := by decide +kernel
theorem d_P_slotAt_38 : decode b_P_slotAt 38 = .ok (.ireturn, 1) := by decide +kernel
theorem d_P_slotAt_39 : decode b_P_slotAt 39 = .ok (.iinc 3 1, 3) := by decide +kernel
theorem d_P_slotAt_42 : decode b_P_slotAt 42 = .ok (.goto (-40), 3) := by decide +kernel
theorem d_P_slotAt_45 : decode b_P_slotAt 45 = .ok (.iconst (-1), 1) := by decide +kernel
theorem d_P_slotAt_46 : decode b_P_slotAt 46 = .ok (.ireturn, 1) := by decide +kernel
theorem d_P_freeSlot_0 : decode b_P_freeSlot 0 = .ok (.iconst 0, 1) := by decide +kernel
theorem d_P_freeSlot_1 : decode b_P_freeSlot 1 = .ok (.istore_n 1, 1) := by decide +kernel
theorem d_P_freeSlot_2 : decode b_P_freeSlot 2 = .ok (.iload_n 1, 1) := by decide +kernel
theorem d_P_freeSlot_3 : decode b_P_freeSlot 3 = .ok (.bipush 20, 2) := by decide +kernel
theorem d_P_freeSlot_5 : decode b_P_freeSlot 5 = .ok (.if_icmp .ge 20, 3) := by decide +kernel
theorem d_P_freeSlot_8 : decode b_P_freeSlot 8 = .ok (.aload_n 0, 1) := by decide +kernel
theorem d_P_freeSlot_9 : decode b_P_freeSlot 9 = .ok (.getfield 18, 3) := by decide +kernel
theorem d_P_freeSlot_12 : decode b_P_freeSlot 12 = .ok (.iload_n 1, 1) := by decide +kernel
theorem d_P_freeSlot_13 : decode b_P_freeSlot 13 = .ok (.baload, 1) := by decide +kernel
theorem d_P_freeSlot_14 : decode b_P_freeSlot 14 = .ok (.ifCond .ne 5, 3) := by decide +kernel
theorem d_P_freeSlot_17 : decode b_P_freeSlot 17 = .ok (.iload_n 1, 1) := by decide +kernel
theorem d_P_freeSlot_18 : decode b_P_freeSlot 18 = .ok (.ireturn, 1) := by decide +kernel
theorem d_P_freeSlot_19 : decode b_P_freeSlot 19 = .ok (.iinc 1 1, 3) := by decide +kernel
theorem d_P_freeSlot_22 : decode b_P_freeSlot 22 = .ok (.goto (-20), 3) := by decide +kernel
theorem d_P_freeSlot_25 : decode b_P_freeSlot 25 = .ok (.iconst (-1), 1) := by decide +kernel
theorem d_P_freeSlot_26 : decode b_P_freeSlot 26 = .ok (.ireturn, 1) := by decide +kernel
theorem d_P_put_0 : decode b_P_put 0 = .ok (.aload_n 0, 1) := by decide +kernel
theorem d_P_put_1 : decode b_P_put 1 = .ok (.getfield 9, 3) := by decide +kernel
theorem d_P_put_4 : decode b_P_put 4 = .ok (.iload_n 1, 1) := by decide +kernel
theorem d_P_put_5 : decode b_P_put 5 = .ok (.iload_n 2, 1) := by decide +kernel
theorem d_P_put_6 : decode b_P_put 6 = .ok (.iastore, 1) := by decide +kernel
theorem d_P_put_7 : decode b_P_put 7 = .ok (.aload_n 0, 1) := by decide +kernel
theorem d_P_put_8 : decode b_P_put 8 = .ok (.getfield 15, 3) := by decide +kernel
theorem d_P_put_11 : decode b_P_put 11 = .ok (.iload_n 1, 1) := by decide +kernel
theorem d_P_put_12 : decode b_P_put 12 = .ok (.iload_n 3, 1) := by decide +kernel
theorem d_P_put_13 : decode b_P_put 13 = .ok (.iastore, 1) := by decide +kernel
theorem d_P_put_14 : decode b_P_put 14 = .ok (.aload_n 0, 1) := by decide +kernel
theorem d_P_put_15 : decode b_P_put 15 = .ok (.getfield 18, 3) := by decide +kernel
theorem d_P_put_18 : decode b_P_put 18 = .ok (.iload_n 1, 1) := by decide +kernel
theorem d_P_put_19 : decode b_P_put 19 = .ok (.iconst 1, 1) := by decide +kernel
theorem d_P_put_20 : decode b_P_put 20 = .ok (.bastore, 1) := by decide +kernel
theorem d_P_put_21 : decode b_P_put 21 = .ok (.aload_n 0, 1) := by decide +kernel
theorem d_P_put_22 : decode b_P_put 22 = .ok (.getfield 25, 3) := by decide +kernel
theorem d_P_put_25 : decode b_P_put 25 = .ok (.istore 4, 2) := by decide +kernel
theorem d_P_put_27 : decode b_P_put 27 = .ok (.iload 4, 2) := by decide +kernel
theorem d_P_put_29 : decode b_P_put 29 = .ok (.ifCond .le 42, 3) := by decide +kernel
theorem d_P_put_32 : decode b_P_put 32 = .ok (.aload_n 0, 1) := by decide +kernel
theorem d_P_put_33 : decode b_P_put 33 = .ok (.iload_n 1, 1) := by decide +kernel
theorem d_P_put_34 : decode b_P_put 34 = .ok (.aload_n 0, 1) := by decide +kernel
theorem d_P_put_35 : decode b_P_put 35 = .ok (.getfield 22, 3) := by decide +kernel
theorem d_P_put_38 : decode b_P_put 38 = .ok (.iload 4, 2) := by decide +kernel
theorem d_P_put_40 : decode b_P_put 40 = .ok (.iconst 1, 1) := by decide +kernel
theorem d_P_put_41 : decode b_P_put 41 = .ok (.isub, 1) := by decide +kernel
theorem d_P_put_42 : decode b_P_put 42 = .ok (.iaload, 1) := by decide +kernel
theorem d_P_put_43 : decode b_P_put 43 = .ok (.invokevirtual 29, 3) := by decide +kernel
theorem d_P_put_46 : decode b_P_put 46 = .ok (.ifCond .eq 25, 3) := by decide +kernel
theorem d_P_put_49 : decode b_P_put 49 = .ok (.aload_n 0, 1) := by decide +kernel
theorem d_P_put_50 : decode b_P_put 50 = .ok (.getfield 22, 3) := by decide +kernel
theorem d_P_put_53 : decode b_P_put 53 = .ok (.iload 4, 2) := by decide +kernel
theorem d_P_put_55 : decode b_P_put 55 = .ok (.aload_n 0, 1) := by decide +kernel
theorem d_P_put_56 : decode b_P_put 56 = .ok (.getfield 22, 3) := by decide +kernel
theorem d_P_put_59 : decode b_P_put 59 = .ok (.iload 4, 2) := by decide +kernel
theorem d_P_put_61 : decode b_P_put 61 = .ok (.iconst 1, 1) := by decide +kernel
theorem d_P_put_62 : decode b_P_put 62 = .ok (.isub, 1) := by decide +kernel
theorem d_P_put_63 : decode b_P_put 63 = .ok (.iaload, 1) := by decide +kernel
theorem d_P_put_64 : decode b_P_put 64 = .ok (.iastore, 1) := by decide +kernel
theorem d_P_put_65 : decode b_P_put 65 = .ok (.iinc 4 (-1), 3) := by decide +kernel
theorem d_P_put_68 : decode b_P_put 68 = .ok (.goto (-41), 3) := by decide +kernel
theorem d_P_put_71 : decode b_P_put 71 = .ok (.aload_n 0, 1) := by decide +kernel
theorem d_P_put_72 : decode b_P_put 72 = .ok (.getfield 22, 3) := by decide +kernel
theorem d_P_put_75 : decode b_P_put 75 = .ok (.iload 4, 2) := by decide +kernel
theorem d_P_put_77 : decode b_P_put 77 = .ok (.iload_n 1, 1) := by decide +kernel
theorem d_P_put_78 : decode b_P_put 78 = .ok (.iastore, 1) := by decide +kernel
theorem d_P_put_79 : decode b_P_put 79 = .ok (.aload_n 0, 1) := by decide +kernel
theorem d_P_put_80 : decode b_P_put 80 = .ok (.dup, 1) := by decide +kernel
theorem d_P_put_81 : decode b_P_put 81 = .ok (.getfield 25, 3) := by decide +kernel
theorem d_P_put_84 : decode b_P_put 84 = .ok (.iconst 1, 1) := by decide +kernel
theorem d_P_put_85 : decode b_P_put 85 = .ok (.iadd, 1) := by decide +kernel
theorem d_P_put_86 : decode b_P_put 86 = .ok (.putfield 25, 3) := by decide +kernel
theorem d_P_put_89 : decode b_P_put 89 = .ok (.return_, 1) := by decide +kernel
theorem d_P_drop_0 : decode b_P_drop 0 = .ok (.aload_n 0, 1) := by decide +kernel
theorem d_P_drop_1 : decode b_P_drop 1 = .ok (.getfield 18, 3) := by decide +kernel
theorem d_P_drop_4 : decode b_P_drop 4 = .ok (.iload_n 1, 1) := by decide +kernel
theorem d_P_drop_5 : decode b_P_drop 5 = .ok (.iconst 0, 1) := by decide +kernel
theorem d_P_drop_6 : decode b_P_drop 6 = .ok (.bastore, 1) := by decide +kernel
theorem d_P_drop_7 : decode b_P_drop 7 = .ok (.iconst 0, 1) := by decide +kernel
theorem d_P_drop_8 : decode b_P_drop 8 = .ok (.istore_n 2, 1) := by decide +kernel
theorem d_P_drop_9 : decode b_P_drop 9 = .ok (.iconst 0, 1) := by decide +kernel
theorem d_P_drop_10 : decode b_P_drop 10 = .ok (.istore_n 3, 1) := by decide +kernel
theorem d_P_drop_11 : decode b_P_drop 11 = .ok (.iload_n 3, 1) := by decide +kernel
theorem d_P_drop_12 : decode b_P_drop 12 = .ok (.aload_n 0, 1) := by decide +kernel
theorem d_P_drop_13 : decode b_P_drop 13 = .ok (.getfield 25, 3) := by decide +kernel
theorem d_P_drop_16 : decode b_P_drop 16 = .ok (.if_icmp .ge 34, 3) := by decide +kernel
theorem d_P_drop_19 : decode b_P_drop 19 = .ok (.aload_n 0, 1) := by decide +kernel
theorem d_P_drop_20 : decode b_P_drop 20 = .ok (.getfield 22, 3) := by decide +kernel
theorem d_P_drop_23 : decode b_P_drop 23 = .ok (.iload_n 3, 1) := by decide +kernel
theorem d_P_drop_24 : decode b_P_drop 24 = .ok (.iaload, 1) := by decide +kernel
theorem d_P_drop_25 : decode b_P_drop 25 = .ok (.iload_n 1, 1) := by decide +kernel
theorem d_P_drop_26 : decode b_P_drop 26 = .ok (.if_icmp .eq 18, 3) := by decide +kernel
theorem d_P_drop_29 : decode b_P_drop 29 = .ok (.aload_n 0, 1) := by decide +kernel
theorem d_P_drop_30 : decode b_P_drop 30 = .ok (.getfield 22, 3) := by decide +kernel
theorem d_P_drop_33 : decode b_P_drop 33 = .ok (.iload_n 2, 1) := by decide +kernel
theorem d_P_drop_34 : decode b_P_drop 34 = .ok (.aload_n 0, 1) := by decide +kernel
theorem d_P_drop_35 : decode b_P_drop 35 = .ok (.getfield 22, 3) := by decide +kernel
theorem d_P_drop_38 : decode b_P_drop 38 = .ok (.iload_n 3, 1) := by decide +kernel
theorem d_P_drop_39 : decode b_P_drop 39 = .ok (.iaload, 1) := by decide +kernel
theorem d_P_drop_40 : decode b_P_drop 40 = .ok (.iastore, 1) := by decide +kernel
theorem d_P_drop_41 : decode b_P_drop 41 = .ok (.iinc 2 1, 3) := by decide +kernel
theorem d_P_drop_44 : decode b_P_drop 44 = .ok (.iinc 3 1, 3) := by decide +kernel
theorem d_P_drop_47 : decode b_P_drop 47 = .ok (.goto (-36), 3) := by decide +kernel
theorem d_P_drop_50 : decode b_P_drop 50 = .ok (.aload_n 0, 1) := by decide +kernel
theorem d_P_drop_51 : decode b_P_drop 51 = .ok (.iload_n 2, 1) := by decide +kernel
theorem d_P_drop_52 : decode b_P_drop 52 = .ok (.putfield 25, 3) := by decide +kernel
theorem d_P_drop_55 : decode b_P_drop 55 = .ok (.return_, 1) := by decide +kernel
theorem d_P_isEarlier_0 : decode b_P_isEarlier 0 = .ok (.aload_n 0, 1) := by decide +kernel
theorem d_P_isEarlier_1 : decode b_P_isEarlier 1 = .ok (.getfield 9, 3) := by decide +kernel
theorem d_P_isEarlier_4 : decode b_P_isEarlier 4 = .ok (.iload_n 1, 1) := by decide +kernel
theorem d_P_isEarlier_5 : decode b_P_isEarlier 5 = .ok (.iaload, 1) := by decide +kernel
theorem d_P_isEarlier_6 : decode b_P_isEarlier 6 = .ok (.aload_n 0, 1) := by decide +kernel
theorem d_P_isEarlier_7 : decode b_P_isEarlier 7 = .ok (.getfield 9, 3) := by decide +kernel
theorem d_P_isEarlier_10 : decode b_P_isEarlier 10 = .ok (.iload_n 2, 1) := by decide +kernel
theorem d_P_isEarlier_11 : decode b_P_isEarlier 11 = .ok (.iaload, 1) := by decide +kernel
theorem d_P_isEarlier_12 : decode b_P_isEarlier 12 = .ok (.if_icmp .lt 33, 3) := by decide +kernel
theorem d_P_isEarlier_15 : decode b_P_isEarlier 15 = .ok (.aload_n 0, 1) := by decide +kernel
theorem d_P_isEarlier_16 : decode b_P_isEarlier 16 = .ok (.getfield 9, 3) := by decide +kernel
theorem d_P_isEarlier_19 : decode b_P_isEarlier 19 = .ok (.iload_n 1, 1) := by decide +kernel
theorem d_P_isEarlier_20 : decode b_P_isEarlier 20 = .ok (.iaload, 1) := by decide +kernel
theorem d_P_isEarlier_21 : decode b_P_isEarlier 21 = .ok (.aload_n 0, 1) := by decide +kernel
theorem d_P_isEarlier_22 : decode b_P_isEarlier 22 = .ok (.getfield 9, 3) := by decide +kernel
theorem d_P_isEarlier_25 : decode b_P_isEarlier 25 = .ok (.iload_n 2, 1) := by decide +kernel
theorem d_P_isEarlier_26 : decode b_P_isEarlier 26 = .ok (.iaload, 1) := by decide +kernel
theorem d_P_isEarlier_27 : decode b_P_isEarlier 27 = .ok (.if_icmp .ne 22, 3) := by decide +kernel
theorem d_P_isEarlier_30 : decode b_P_isEarlier 30 = .ok (.aload_n 0, 1) := by decide +kernel
theorem d_P_isEarlier_31 : decode b_P_isEarlier 31 = .ok (.getfield 15, 3) := by decide +kernel
theorem d_P_isEarlier_34 : decode b_P_isEarlier 34 = .ok (.iload_n 1, 1) := by decide +kernel
theorem d_P_isEarlier_35 : decode b_P_isEarlier 35 = .ok (.iaload, 1) := by decide +kernel
theorem d_P_isEarlier_36 : decode b_P_isEarlier 36 = .ok (.aload_n 0, 1) := by decide +kernel
theorem d_P_isEarlier_37 : decode b_P_isEarlier 37 = .ok (.getfield 15, 3) := by decide +kernel
theorem d_P_isEarlier_40 : decode b_P_isEarlier 40 = .ok (.iload_n 2, 1) := by decide +kernel
theorem d_P_isEarlier_41 : decode b_P_isEarlier 41 = .ok (.iaload, 1) := by decide +kernel
theorem d_P_isEarlier_42 : decode b_P_isEarlier 42 = .ok (.if_icmp .ge 7, 3) := by decide +kernel
theorem d_P_isEarlier_45 : decode b_P_isEarlier 45 = .ok (.iconst 1, 1) := by decide +kernel
theorem d_P_isEarlier_46 : decode b_P_isEarlier 46 = .ok (.goto 4, 3) := by decide +kernel
theorem d_P_isEarlier_49 : decode b_P_isEarlier 49 = .ok (.iconst 0, 1) := by decide +kernel
theorem d_P_isEarlier_50 : decode b_P_isEarlier 50 = .ok (.ireturn, 1) := by decide +kernel
theorem d_P_squaredDistance_0 : decode b_P_squaredDistance 0 = .ok (.aload_n 0, 1) := by decide +kernel
theorem d_P_squaredDistance_1 : decode b_P_squaredDistance 1 = .ok (.getfield 9, 3) := by decide +kernel
theorem d_P_squaredDistance_4 : decode b_P_squaredDistance 4 = .ok (.iload_n 1, 1) := by decide +kernel
theorem d_P_squaredDistance_5 : decode b_P_squaredDistance 5 = .ok (.iaload, 1) := by decide +kernel
theorem d_P_squaredDistance_6 : decode b_P_squaredDistance 6 = .ok (.iload_n 2, 1) := by decide +kernel
theorem d_P_squaredDistance_7 : decode b_P_squaredDistance 7 = .ok (.isub, 1) := by decide +kernel
theorem d_P_squaredDistance_8 : decode b_P_squaredDistance 8 = .ok (.i2l, 1) := by decide +kernel
theorem d_P_squaredDistance_9 : decode b_P_squaredDistance 9 = .ok (.lstore 4, 2) := by decide +kernel
theorem d_P_squaredDistance_11 : decode b_P_squaredDistance 11 = .ok (.aload_n 0, 1) := by decide +kernel
theorem d_P_squaredDistance_12 : decode b_P_squaredDistance 12 = .ok (.getfield 15, 3) := by decide +kernel
theorem d_P_squaredDistance_15 : decode b_P_squaredDistance 15 = .ok (.iload_n 1, 1) := by decide +kernel
theorem d_P_squaredDistance_16 : decode b_P_squaredDistance 16 = .ok (.iaload, 1) := by decide +kernel
theorem d_P_squaredDistance_17 : decode b_P_squaredDistance 17 = .ok (.iload_n 3, 1) := by decide +kernel
theorem d_P_squaredDistance_18 : decode b_P_squaredDistance 18 = .ok (.isub, 1) := by decide +kernel
theorem d_P_squaredDistance_19 : decode b_P_squaredDistance 19 = .ok (.i2l, 1) := by decide +kernel
theorem d_P_squaredDistance_20 : decode b_P_squaredDistance 20 = .ok (.lstore 6, 2) := by decide +kernel
theorem d_P_squaredDistance_22 : decode b_P_squaredDistance 22 = .ok (.lload 4, 2) := by decide +kernel
theorem d_P_squaredDistance_24 : decode b_P_squaredDistance 24 = .ok (.lload 4, 2) := by decide +kernel
theorem d_P_squaredDistance_26 : decode b_P_squaredDistance 26 = .ok (.lmul, 1) := by decide +kernel
theorem d_P_squaredDistance_27 : decode b_P_squaredDistance 27 = .ok (.lload 6, 2) := by decide +kernel
theorem d_P_squaredDistance_29 : decode b_P_squaredDistance 29 = .ok (.lload 6, 2) := by decide +kernel
theorem d_P_squaredDistance_31 : decode b_P_squaredDistance 31 = .ok (.lmul, 1) := by decide +kernel
theorem d_P_squaredDistance_32 : decode b_P_squaredDistance 32 = .ok (.ladd, 1) := by decide +kernel
theorem d_P_squaredDistance_33 : decode b_P_squaredDistance 33 = .ok (.lreturn, 1) := by decide +kernel
theorem d_P_crossTo_0 : decode b_P_crossTo 0 = .ok (.aload_n 0, 1) := by decide +kernel
theorem d_P_crossTo_1 : decode b_P_crossTo 1 = .ok (.getfield 9, 3) := by decide +kernel
theorem d_P_crossTo_4 : decode b_P_crossTo 4 = .ok (.iload_n 2, 1) := by decide +kernel
theorem d_P_crossTo_5 : decode b_P_crossTo 5 = .ok (.iaload, 1) := by decide +kernel
theorem d_P_crossTo_6 : decode b_P_crossTo 6 = .ok (.aload_n 0, 1) := by decide +kernel
theorem d_P_crossTo_7 : decode b_P_crossTo 7 = .ok (.getfield 9, 3) := by decide +kernel
theorem d_P_crossTo_10 : decode b_P_crossTo 10 = .ok (.iload_n 1, 1) := by decide +kernel
theorem d_P_crossTo_11 : decode b_P_crossTo 11 = .ok (.iaload, 1) := by decide +kernel
theorem d_P_crossTo_12 : decode b_P_crossTo 12 = .ok (.isub, 1) := by decide +kernel
theorem d_P_crossTo_13 : decode b_P_crossTo 13 = .ok (.i2l, 1) := by decide +kernel
theorem d_P_crossTo_14 : decode b_P_crossTo 14 = .ok (.lstore 5, 2) := by decide +kernel
theorem d_P_crossTo_16 : decode b_P_crossTo 16 = .ok (.aload_n 0, 1) := by decide +kernel
theorem d_P_crossTo_17 : decode b_P_crossTo 17 = .ok (.getfield 15, 3) := by decide +kernel
theorem d_P_crossTo_20 : decode b_P_crossTo 20 = .ok (.iload_n 2, 1) := by decide +kernel
theorem d_P_crossTo_21 : decode b_P_crossTo 21 = .ok (.iaload, 1) := by decide +kernel
theorem d_P_crossTo_22 : decode b_P_crossTo 22 = .ok (.aload_n 0, 1) := by decide +kernel
theorem d_P_crossTo_23 : decode b_P_crossTo 23 = .ok (.getfield 15, 3) := by decide +kernel
theorem d_P_crossTo_26 : decode b_P_crossTo 26 = .ok (.iload_n 1, 1) := by decide +kernel
theorem d_P_crossTo_27 : decode b_P_crossTo 27 = .ok (.iaload, 1) := by decide +kernel
theorem d_P_crossTo_28 : decode b_P_crossTo 28 = .ok (.isub, 1) := by decide +kernel
theorem d_P_crossTo_29 : decode b_P_crossTo 29 = .ok (.i2l, 1) := by decide +kernel
theorem d_P_crossTo_30 : decode b_P_crossTo 30 = .ok (.lstore 7, 2) := by decide +kernel
theorem d_P_crossTo_32 : decode b_P_crossTo 32 = .ok (.iload_n 3, 1) := by decide +kernel
theorem d_P_crossTo_33 : decode b_P_crossTo 33 = .ok (.aload_n 0, 1) := by decide +kernel
theorem d_P_crossTo_34 : decode b_P_crossTo 34 = .ok (.getfield 9, 3) := by decide +kernel
theorem d_P_crossTo_37 : decode b_P_crossTo 37 = .ok (.iload_n 1, 1) := by decide +kernel
theorem d_P_crossTo_38 : decode b_P_crossTo 38 = .ok (.iaload, 1) := by decide +kernel
theorem d_P_crossTo_39 : decode b_P_crossTo 39 = .ok (.isub, 1) := by decide +kernel
theorem d_P_crossTo_40 : decode b_P_crossTo 40 = .ok (.i2l, 1) := by decide +kernel
theorem d_P_crossTo_41 : decode b_P_crossTo 41 = .ok (.lstore 9, 2) := by decide +kernel
theorem d_P_crossTo_43 : decode b_P_crossTo 43 = .ok (.iload 4, 2) := by decide +kernel
theorem d_P_crossTo_45 : decode b_P_crossTo 45 = .ok (.aload_n 0, 1) := by decide +kernel
theorem d_P_crossTo_46 : decode b_P_crossTo 46 = .ok (.getfield 15, 3) := by decide +kernel
theorem d_P_crossTo_49 : decode b_P_crossTo 49 = .ok (.iload_n 1, 1) := by decide +kernel
theorem d_P_crossTo_50 : decode b_P_crossTo 50 = .ok (.iaload, 1) := by decide +kernel
theorem d_P_crossTo_51 : decode b_P_crossTo 51 = .ok (.isub, 1) := by decide +kernel
theorem d_P_crossTo_52 : decode b_P_crossTo 52 = .ok (.i2l, 1) := by decide +kernel
theorem d_P_crossTo_53 : decode b_P_crossTo 53 = .ok (.lstore 11, 2) := by decide +kernel
theorem d_P_crossTo_55 : decode b_P_crossTo 55 = .ok (.lload 5, 2) := by decide +kernel
theorem d_P_crossTo_57 : decode b_P_crossTo 57 = .ok (.lload 11, 2) := by decide +kernel
theorem d_P_crossTo_59 : decode b_P_crossTo 59 = .ok (.lmul, 1) := by decide +kernel
theorem d_P_crossTo_60 : decode b_P_crossTo 60 = .ok (.lload 7, 2) := by decide +kernel
theorem d_P_crossTo_62 : decode b_P_crossTo 62 = .ok (.lload 9, 2) := by decide +kernel
theorem d_P_crossTo_64 : decode b_P_crossTo 64 = .ok (.lmul, 1) := by decide +kernel
theorem d_P_crossTo_65 : decode b_P_crossTo 65 = .ok (.lsub, 1) := by decide +kernel
theorem d_P_crossTo_66 : decode b_P_crossTo 66 = .ok (.lreturn, 1) := by decide +kernel
theorem d_P_doubleArea_0 : decode b_P_doubleArea 0 = .ok (.aload_n 0, 1) := by decide +kernel
theorem d_P_doubleArea_1 : decode b_P_doubleArea 1 = .ok (.iload_n 1, 1) := by decide +kernel
theorem d_P_doubleArea_2 : decode b_P_doubleArea 2 = .ok (.iload_n 2, 1) := by decide +kernel
theorem d_P_doubleArea_3 : decode b_P_doubleArea 3 = .ok (.aload_n 0, 1) := by decide +kernel
theorem d_P_doubleArea_4 : decode b_P_doubleArea 4 = .ok (.getfield 9, 3) := by decide +kernel
theorem d_P_doubleArea_7 : decode b_P_doubleArea 7 = .ok (.iload_n 3, 1) := by decide +kernel
theorem d_P_doubleArea_8 : decode b_P_doubleArea 8 = .ok (.iaload, 1) := by decide +kernel
theorem d_P_doubleArea_9 : decode b_P_doubleArea 9 = .ok (.aload_n 0, 1) := by decide +kernel
theorem d_P_doubleArea_10 : decode b_P_doubleArea 10 = .ok (.getfield 15, 3) := by decide +kernel
theorem d_P_doubleArea_13 : decode b_P_doubleArea 13 = .ok (.iload_n 3, 1) := by decide +kernel
theorem d_P_doubleArea_14 : decode b_P_doubleArea 14 = .ok (.iaload, 1) := by decide +kernel
theorem d_P_doubleArea_15 : decode b_P_doubleArea 15 = .ok (.invokevirtual 33, 3) := by decide +kernel
theorem d_P_doubleArea_18 : decode b_P_doubleArea 18 = .ok (.lreturn, 1) := by decide +kernel
theorem d_P_side_0 : decode b_P_side 0 = .ok (.aload_n 0, 1) := by decide +kernel
theorem d_P_side_1 : decode b_P_side 1 = .ok (.iload_n 1, 1) := by decide +kernel
theorem d_P_side_2 : decode b_P_side 2 = .ok (.iload_n 2, 1) := by decide +kernel
theorem d_P_side_3 : decode b_P_side 3 = .ok (.aload_n 0, 1) := by decide +kernel
theorem d_P_side_4 : decode b_P_side 4 = .ok (.getfield 9, 3) := by decide +kernel
theorem d_P_side_7 : decode b_P_side 7 = .ok (.iload_n 3, 1) := by decide +kernel
theorem d_P_side_8 : decode b_P_side 8 = .ok (.iaload, 1) := by decide +kernel
theorem d_P_side_9 : decode b_P_side 9 = .ok (.aload_n 0, 1) := by decide +kernel
theorem d_P_side_10 : decode b_P_side 10 = .ok (.getfield 15, 3) := by decide +kernel
theorem d_P_side_13 : decode b_P_side 13 = .ok (.iload_n 3, 1) := by decide +kernel
theorem d_P_side_14 : decode b_P_side 14 = .ok (.iaload, 1) := by decide +kernel
theorem d_P_side_15 : decode b_P_side 15 = .ok (.invokevirtual 33, 3) := by decide +kernel
theorem d_P_side_18 : decode b_P_side 18 = .ok (.invokestatic 37, 3) := by decide +kernel
theorem d_P_side_21 : decode b_P_side 21 = .ok (.ireturn, 1) := by decide +kernel
theorem d_P_circleSide_0 : decode b_P_circleSide 0 = .ok (.aload_n 0, 1) := by decide +kernel
theorem d_P_circleSide_1 : decode b_P_circleSide 1 = .ok (.getfield 9, 3) := by decide +kernel
theorem d_P_circleSide_4 : decode b_P_circleSide 4 = .ok (.iload_n 1, 1) := by decide +kernel
theorem d_P_circleSide_5 : decode b_P_circleSide 5 = .ok (.iaload, 1) := by decide +kernel
theorem d_P_circleSide_6 : decode b_P_circleSide 6 = .ok (.aload_n 0, 1) := by decide +kernel
theorem d_P_circleSide_7 : decode b_P_circleSide 7 = .ok (.getfield 9, 3) := by decide +kernel
theorem d_P_circleSide_10 : decode b_P_circleSide 10 = .ok (.iload 4, 2) := by decide +kernel
theorem d_P_circleSide_12 : decode b_P_circleSide 12 = .ok (.iaload, 1) := by decide +kernel
theorem d_P_circleSide_13 : decode b_P_circleSide 13 = .ok (.isub, 1) := by decide +kernel
theorem d_P_circleSide_14 : decode b_P_circleSide 14 = .ok (.i2l, 1) := by decide +kernel
theorem d_P_circleSide_15 : decode b_P_circleSide 15 = .ok (.lstore 5, 2) := by decide +kernel
theorem d_P_circleSide_17 : decode b_P_circleSide 17 = .ok (.aload_n 0, 1) := by decide +kernel
theorem d_P_circleSide_18 : decode b_P_circleSide 18 = .ok (.getfield 15, 3) := by decide +kernel
theorem d_P_circleSide_21 : decode b_P_circleSide 21 = .ok (.iload_n 1, 1) := by decide +kernel
theorem d_P_circleSide_22 : decode b_P_circleSide 22 = .ok (.iaload, 1) := by decide +kernel
theorem d_P_circleSide_23 : decode b_P_circleSide 23 = .ok (.aload_n 0, 1) := by decide +kernel
theorem d_P_circleSide_24 : decode b_P_circleSide 24 = .ok (.getfield 15, 3) := by decide +kernel
theorem d_P_circleSide_27 : decode b_P_circleSide 27 = .ok (.iload 4, 2) := by decide +kernel
theorem d_P_circleSide_29 : decode b_P_circleSide 29 = .ok (.iaload, 1) := by decide +kernel
theorem d_P_circleSide_30 : decode b_P_circleSide 30 = .ok (.isub, 1) := by decide +kernel
theorem d_P_circleSide_31 : decode b_P_circleSide 31 = .ok (.i2l, 1) := by decide +kernel
theorem d_P_circleSide_32 : decode b_P_circleSide 32 = .ok (.lstore 7, 2) := by decide +kernel
theorem d_P_circleSide_34 : decode b_P_circleSide 34 = .ok (.aload_n 0, 1) := by decide +kernel
theorem d_P_circleSide_35 : decode b_P_circleSide 35 = .ok (.getfield 9, 3) := by decide +kernel
theorem d_P_circleSide_38 : decode b_P_circleSide 38 = .ok (.iload_n 2, 1) := by decide +kernel
theorem d_P_circleSide_39 : decode b_P_circleSide 39 = .ok (.iaload, 1) := by decide +kernel
theorem d_P_circleSide_40 : decode b_P_circleSide 40 = .ok (.aload_n 0, 1) := by decide +kernel
theorem d_P_circleSide_41 : decode b_P_circleSide 41 = .ok (.getfield 9, 3) := by decide +kernel
theorem d_P_circleSide_44 : decode b_P_circleSide 44 = .ok (.iload 4, 2) := by decide +kernel
theorem d_P_circleSide_46 : decode b_P_circleSide 46 = .ok (.iaload, 1) := by decide +kernel
theorem d_P_circleSide_47 : decode b_P_circleSide 47 = .ok (.isub, 1) := by decide +kernel
theorem d_P_circleSide_48 : decode b_P_circleSide 48 = .ok (.i2l, 1) := by decide +kernel
theorem d_P_circleSide_49 : decode b_P_circleSide 49 = .ok (.lstore 9, 2) := by decide +kernel
theorem d_P_circleSide_51 : decode b_P_circleSide 51 = .ok (.aload_n 0, 1) := by decide +kernel
theorem d_P_circleSide_52 : decode b_P_circleSide 52 = .ok (.getfield 15, 3) := by decide +kernel
theorem d_P_circleSide_55 : decode b_P_circleSide 55 = .ok (.iload_n 2, 1) := by decide +kernel
theorem d_P_circleSide_56 : decode b_P_circleSide 56 = .ok (.iaload, 1) := by decide +kernel
theorem d_P_circleSide_57 : decode b_P_circleSide 57 = .ok (.aload_n 0, 1) := by decide +kernel
theorem d_P_circleSide_58 : decode b_P_circleSide 58 = .ok (.getfield 15, 3) := by decide +kernel
theorem d_P_circleSide_61 : decode b_P_circleSide 61 = .ok (.iload 4, 2) := by decide +kernel
theorem d_P_circleSide_63 : decode b_P_circleSide 63 = .ok (.iaload, 1) := by decide +kernel
theorem d_P_circleSide_64 : decode b_P_circleSide 64 = .ok (.isub, 1) := by decide +kernel
theorem d_P_circleSide_65 : decode b_P_circleSide 65 = .ok (.i2l, 1) := by decide +kernel
theorem d_P_circleSide_66 : decode b_P_circleSide 66 = .ok (.lstore 11, 2) := by decide +kernel
theorem d_P_circleSide_68 : decode b_P_circleSide 68 = .ok (.aload_n 0, 1) := by decide +kernel
theorem d_P_circleSide_69 : decode b_P_circleSide 69 = .ok (.getfield 9, 3) := by decide +kernel
theorem d_P_circleSide_72 : decode b_P_circleSide 72 = .ok (.iload_n 3, 1) := by decide +kernel
theorem d_P_circleSide_73 : decode b_P_circleSide 73 = .ok (.iaload, 1) := by decide +kernel
theorem d_P_circleSide_74 : decode b_P_circleSide 74 = .ok (.aload_n 0, 1) := by decide +kernel
theorem d_P_circleSide_75 : decode b_P_circleSide 75 = .ok (.getfield 9, 3) := by decide +kernel
theorem d_P_circleSide_78 : decode b_P_circleSide 78 = .ok (.iload 4, 2) := by decide +kernel
theorem d_P_circleSide_80 : decode b_P_circleSide 80 = .ok (.iaload, 1) := by decide +kernel
theorem d_P_circleSide_81 : decode b_P_circleSide 81 = .ok (.isub, 1) := by decide +kernel
theorem d_P_circleSide_82 : decode b_P_circleSide 82 = .ok (.i2l, 1) := by decide +kernel
theorem d_P_circleSide_83 : decode b_P_circleSide 83 = .ok (.lstore 13, 2) := by decide +kernel
theorem d_P_circleSide_85 : decode b_P_circleSide 85 = .ok (.aload_n 0, 1) := by decide +kernel
theorem d_P_circleSide_86 : decode b_P_circleSide 86 = .ok (.getfield 15, 3) := by decide +kernel
theorem d_P_circleSide_89 : decode b_P_circleSide 89 = .ok (.iload_n 3, 1) := by decide +kernel
theorem d_P_circleSide_90 : decode b_P_circleSide 90 = .ok (.iaload, 1) := by decide +kernel
theorem d_P_circleSide_91 : decode b_P_circleSide 91 = .ok (.aload_n 0, 1) := by decide +kernel
theorem d_P_circleSide_92 : decode b_P_circleSide 92 = .ok (.getfield 15, 3) := by decide +kernel
theorem d_P_circleSide_95 : decode b_P_circleSide 95 = .ok (.iload 4, 2) := by decide +kernel
theorem d_P_circleSide_97 : decode b_P_circleSide 97 = .ok (.iaload, 1) := by decide +kernel
theorem d_P_circleSide_98 : decode b_P_circleSide 98 = .ok (.isub, 1) := by decide +kernel
theorem d_P_circleSide_99 : decode b_P_circleSide 99 = .ok (.i2l, 1) := by decide +kernel
theorem d_P_circleSide_100 : decode b_P_circleSide 100 = .ok (.lstore 15, 2) := by decide +kernel
theorem d_P_circleSide_102 : decode b_P_circleSide 102 = .ok (.lload 5, 2) := by decide +kernel
theorem d_P_circleSide_104 : decode b_P_circleSide 104 = .ok (.lload 5, 2) := by decide +kernel
theorem d_P_circleSide_106 : decode b_P_circleSide 106 = .ok (.lmul, 1) := by decide +kernel
theorem d_P_circleSide_107 : decode b_P_circleSide 107 = .ok (.lload 7, 2) := by decide +kernel
theorem d_P_circleSide_109 : decode b_P_circleSide 109 = .ok (.lload 7, 2) := by decide +kernel
theorem d_P_circleSide_111 : decode b_P_circleSide 111 = .ok (.lmul, 1) := by decide +kernel
theorem d_P_circleSide_112 : decode b_P_circleSide 112 = .ok (.ladd, 1) := by decide +kernel
theorem d_P_circleSide_113 : decode b_P_circleSide 113 = .ok (.lload 9, 2) := by decide +kernel
theorem d_P_circleSide_115 : decode b_P_circleSide 115 = .ok (.lload 15, 2) := by decide +kernel
theorem d_P_circleSide_117 : decode b_P_circleSide 117 = .ok (.lmul, 1) := by decide +kernel
theorem d_P_circleSide_118 : decode b_P_circleSide 118 = .ok (.lload 11, 2) := by decide +kernel
theorem d_P_circleSide_120 : decode b_P_circleSide 120 = .ok (.lload 13, 2) := by decide +kernel
theorem d_P_circleSide_122 : decode b_P_circleSide 122 = .ok (.lmul, 1) := by decide +kernel
theorem d_P_circleSide_123 : decode b_P_circleSide 123 = .ok (.lsub, 1) := by decide +kernel
theorem d_P_circleSide_124 : decode b_P_circleSide 124 = .ok (.lload 9, 2) := by decide +kernel
theorem d_P_circleSide_126 : decode b_P_circleSide 126 = .ok (.lload 9, 2) := by decide +kernel
theorem d_P_circleSide_128 : decode b_P_circleSide 128 = .ok (.lmul, 1) := by decide +kernel
theorem d_P_circleSide_129 : decode b_P_circleSide 129 = .ok (.lload 11, 2) := by decide +kernel
theorem d_P_circleSide_131 : decode b_P_circleSide 131 = .ok (.lload 11, 2) := by decide +kernel
theorem d_P_circleSide_133 : decode b_P_circleSide 133 = .ok (.lmul, 1) := by decide +kernel
theorem d_P_circleSide_134 : decode b_P_circleSide 134 = .ok (.ladd, 1) := by decide +kernel
theorem d_P_circleSide_135 : decode b_P_circleSide 135 = .ok (.lload 13, 2) := by decide +kernel
theorem d_P_circleSide_137 : decode b_P_circleSide 137 = .ok (.lload 7, 2) := by decide +kernel
theorem d_P_circleSide_139 : decode b_P_circleSide 139 = .ok (.lmul, 1) := by decide +kernel
theorem d_P_circleSide_140 : decode b_P_circleSide 140 = .ok (.lload 15, 2) := by decide +kernel
theorem d_P_circleSide_142 : decode b_P_circleSide 142 = .ok (.lload 5, 2) := by decide +kernel
theorem d_P_circleSide_144 : decode b_P_circleSide 144 = .ok (.lmul, 1) := by decide +kernel
theorem d_P_circleSide_145 : decode b_P_circleSide 145 = .ok (.lsub, 1) := by decide +kernel
theorem d_P_circleSide_146 : decode b_P_circleSide 146 = .ok (.lload 13, 2) := by decide +kernel
theorem d_P_circleSide_148 : decode b_P_circleSide 148 = .ok (.lload 13, 2) := by decide +kernel
theorem d_P_circleSide_150 : decode b_P_circleSide 150 = .ok (.lmul, 1) := by decide +kernel
theorem d_P_circleSide_151 : decode b_P_circleSide 151 = .ok (.lload 15, 2) := by decide +kernel
theorem d_P_circleSide_153 : decode b_P_circleSide 153 = .ok (.lload 15, 2) := by decide +kernel
theorem d_P_circleSide_155 : decode b_P_circleSide 155 = .ok (.lmul, 1) := by decide +kernel
theorem d_P_circleSide_156 : decode b_P_circleSide 156 = .ok (.ladd, 1) := by decide +kernel
theorem d_P_circleSide_157 : decode b_P_circleSide 157 = .ok (.lload 5, 2) := by decide +kernel
theorem d_P_circleSide_159 : decode b_P_circleSide 159 = .ok (.lload 11, 2) := by decide +kernel
theorem d_P_circleSide_161 : decode b_P_circleSide 161 = .ok (.lmul, 1) := by decide +kernel
theorem d_P_circleSide_162 : decode b_P_circleSide 162 = .ok (.lload 7, 2) := by decide +kernel
theorem d_P_circleSide_164 : decode b_P_circleSide 164 = .ok (.lload 9, 2) := by decide +kernel
theorem d_P_circleSide_166 : decode b_P_circleSide 166 = .ok (.lmul, 1) := by decide +kernel
theorem d_P_circleSide_167 : decode b_P_circleSide 167 = .ok (.lsub, 1) := by decide +kernel
theorem d_P_circleSide_168 : decode b_P_circleSide 168 = .ok (.invokestatic 41, 3) := by decide +kernel
theorem d_P_circleSide_171 : decode b_P_circleSide 171 = .ok (.ireturn, 1) := by decide +kernel
theorem d_P_signOfProducts_0 : decode b_P_signOfProducts 0 = .ok (.lload_n 0, 1) := by decide +kernel
theorem d_P_signOfProducts_1 : decode b_P_signOfProducts 1 = .ok (.ldc2_w 45, 3) := by decide +kernel
theorem d_P_signOfProducts_4 : decode b_P_signOfProducts 4 = .ok (.land, 1) := by decide +kernel
theorem d_P_signOfProducts_5 : decode b_P_signOfProducts 5 = .ok (.lload_n 2, 1) := by decide +kernel
theorem d_P_signOfProducts_6 : decode b_P_signOfProducts 6 = .ok (.lmul, 1) := by decide +kernel
theorem d_P_signOfProducts_7 : decode b_P_signOfProducts 7 = .ok (.lload 4, 2) := by decide +kernel
theorem d_P_signOfProducts_9 : decode b_P_signOfProducts 9 = .ok (.ldc2_w 45, 3) := by decide +kernel
theorem d_P_signOfProducts_12 : decode b_P_signOfProducts 12 = .ok (.land, 1) := by decide +kernel
theorem d_P_signOfProducts_13 : decode b_P_signOfProducts 13 = .ok (.lload 6, 2) := by decide +kernel
theorem d_P_signOfProducts_15 : decode b_P_signOfProducts 15 = .ok (.lmul, 1) := by decide +kernel
theorem d_P_signOfProducts_16 : decode b_P_signOfProducts 16 = .ok (.ladd, 1) := by decide +kernel
theorem d_P_signOfProducts_17 : decode b_P_signOfProducts 17 = .ok (.lload 8, 2) := by decide +kernel
theorem d_P_signOfProducts_19 : decode b_P_signOfProducts 19 = .ok (.ldc2_w 45, 3) := by decide +kernel
theorem d_P_signOfProducts_22 : decode b_P_signOfProducts 22 = .ok (.land, 1) := by decide +kernel
theorem d_P_signOfProducts_23 : decode b_P_signOfProducts 23 = .ok (.lload 10, 2) := by decide +kernel
theorem d_P_signOfProducts_25 : decode b_P_signOfProducts 25 = .ok (.lmul, 1) := by decide +kernel
theorem d_P_signOfProducts_26 : decode b_P_signOfProducts 26 = .ok (.ladd, 1) := by decide +kernel
theorem d_P_signOfProducts_27 : decode b_P_signOfProducts 27 = .ok (.lstore 12, 2) := by decide +kernel
theorem d_P_signOfProducts_29 : decode b_P_signOfProducts 29 = .ok (.lload_n 0, 1) := by decide +kernel
theorem d_P_signOfProducts_30 : decode b_P_signOfProducts 30 = .ok (.bipush 15, 2) := by decide +kernel
theorem d_P_signOfProducts_32 : decode b_P_signOfProducts 32 = .ok (.lshr, 1) := by decide +kernel
theorem d_P_signOfProducts_33 : decode b_P_signOfProducts 33 = .ok (.lstore_n 0, 1) := by decide +kernel
theorem d_P_signOfProducts_34 : decode b_P_signOfProducts 34 = .ok (.lload 4, 2) := by decide +kernel
theorem d_P_signOfProducts_36 : decode b_P_signOfProducts 36 = .ok (.bipush 15, 2) := by decide +kernel
theorem d_P_signOfProducts_38 : decode b_P_signOfProducts 38 = .ok (.lshr, 1) := by decide +kernel
theorem d_P_signOfProducts_39 : decode b_P_signOfProducts 39 = .ok (.lstore 4, 2) := by decide +kernel
theorem d_P_signOfProducts_41 : decode b_P_signOfProducts 41 = .ok (.lload 8, 2) := by decide +kernel
theorem d_P_signOfProducts_43 : decode b_P_signOfProducts 43 = .ok (.bipush 15, 2) := by decide +kernel
theorem d_P_signOfProducts_45 : decode b_P_signOfProducts 45 = .ok (.lshr, 1) := by decide +kernel
theorem d_P_signOfProducts_46 : decode b_P_signOfProducts 46 = .ok (.lstore 8, 2) := by decide +kernel
theorem d_P_signOfProducts_48 : decode b_P_signOfProducts 48 = .ok (.lload_n 0, 1) := by decide +kernel
theorem d_P_signOfProducts_49 : decode b_P_signOfProducts 49 = .ok (.ldc2_w 45, 3) := by decide +kernel
theorem d_P_signOfProducts_52 : decode b_P_signOfProducts 52 = .ok (.land, 1) := by decide +kernel
theorem d_P_signOfProducts_53 : decode b_P_signOfProducts 53 = .ok (.lload_n 2, 1) := by decide +kernel
theorem d_P_signOfProducts_54 : decode b_P_signOfProducts 54 = .ok (.lmul, 1) := by decide +kernel
theorem d_P_signOfProducts_55 : decode b_P_signOfProducts 55 = .ok (.lload 4, 2) := by decide +kernel
theorem d_P_signOfProducts_57 : decode b_P_signOfProducts 57 = .ok (.ldc2_w 45, 3) := by decide +kernel
theorem d_P_signOfProducts_60 : decode b_P_signOfProducts 60 = .ok (.land, 1) := by decide +kernel
theorem d_P_signOfProducts_61 : decode b_P_signOfProducts 61 = .ok (.lload 6, 2) := by decide +kernel
theorem d_P_signOfProducts_63 : decode b_P_signOfProducts 63 = .ok (.lmul, 1) := by decide +kernel
theorem d_P_signOfProducts_64 : decode b_P_signOfProducts 64 = .ok (.ladd, 1) := by decide +kernel
theorem d_P_signOfProducts_65 : decode b_P_signOfProducts 65 = .ok (.lload 8, 2) := by decide +kernel
theorem d_P_signOfProducts_67 : decode b_P_signOfProducts 67 = .ok (.ldc2_w 45, 3) := by decide +kernel
theorem d_P_signOfProducts_70 : decode b_P_signOfProducts 70 = .ok (.land, 1) := by decide +kernel
theorem d_P_signOfProducts_71 : decode b_P_signOfProducts 71 = .ok (.lload 10, 2) := by decide +kernel
theorem d_P_signOfProducts_73 : decode b_P_signOfProducts 73 = .ok (.lmul, 1) := by decide +kernel
theorem d_P_signOfProducts_74 : decode b_P_signOfProducts 74 = .ok (.ladd, 1) := by decide +kernel
theorem d_P_signOfProducts_75 : decode b_P_signOfProducts 75 = .ok (.lload 12, 2) := by decide +kernel
theorem d_P_signOfProducts_77 : decode b_P_signOfProducts 77 = .ok (.bipush 15, 2) := by decide +kernel
theorem d_P_signOfProducts_79 : decode b_P_signOfProducts 79 = .ok (.lshr, 1) := by decide +kernel
theorem d_P_signOfProducts_80 : decode b_P_signOfProducts 80 = .ok (.ladd, 1) := by decide +kernel
theorem d_P_signOfProducts_81 : decode b_P_signOfProducts 81 = .ok (.lstore 14, 2) := by decide +kernel
theorem d_P_signOfProducts_83 : decode b_P_signOfProducts 83 = .ok (.lload_n 0, 1) := by decide +kernel
theorem d_P_signOfProducts_84 : decode b_P_signOfProducts 84 = .ok (.bipush 15, 2) := by decide +kernel
theorem d_P_signOfProducts_86 : decode b_P_signOfProducts 86 = .ok (.lshr, 1) := by decide +kernel
theorem d_P_signOfProducts_87 : decode b_P_signOfProducts 87 = .ok (.lstore_n 0, 1) := by decide +kernel
theorem d_P_signOfProducts_88 : decode b_P_signOfProducts 88 = .ok (.lload 4, 2) := by decide +kernel
theorem d_P_signOfProducts_90 : decode b_P_signOfProducts 90 = .ok (.bipush 15, 2) := by decide +kernel
theorem d_P_signOfProducts_92 : decode b_P_signOfProducts 92 = .ok (.lshr, 1) := by decide +kernel
theorem d_P_signOfProducts_93 : decode b_P_signOfProducts 93 = .ok (.lstore 4, 2) := by decide +kernel
theorem d_P_signOfProducts_95 : decode b_P_signOfProducts 95 = .ok (.lload 8, 2) := by decide +kernel
theorem d_P_signOfProducts_97 : decode b_P_signOfProducts 97 = .ok (.bipush 15, 2) := by decide +kernel
theorem d_P_signOfProducts_99 : decode b_P_signOfProducts 99 = .ok (.lshr, 1) := by decide +kernel
theorem d_P_signOfProducts_100 : decode b_P_signOfProducts 100 = .ok (.lstore 8, 2) := by decide +kernel
theorem d_P_signOfProducts_102 : decode b_P_signOfProducts 102 = .ok (.lload_n 0, 1) := by decide +kernel
theorem d_P_signOfProducts_103 : decode b_P_signOfProducts 103 = .ok (.lload_n 2, 1) := by decide +kernel
theorem d_P_signOfProducts_104 : decode b_P_signOfProducts 104 = .ok (.lmul, 1) := by decide +kernel
theorem d_P_signOfProducts_105 : decode b_P_signOfProducts 105 = .ok (.lload 4, 2) := by decide +kernel
theorem d_P_signOfProducts_107 : decode b_P_signOfProducts 107 = .ok (.lload 6, 2) := by decide +kernel
theorem d_P_signOfProducts_109 : decode b_P_signOfProducts 109 = .ok (.lmul, 1) := by decide +kernel
theorem d_P_signOfProducts_110 : decode b_P_signOfProducts 110 = .ok (.ladd, 1) := by decide +kernel
theorem d_P_signOfProducts_111 : decode b_P_signOfProducts 111 = .ok (.lload 8, 2) := by decide +kernel
theorem d_P_signOfProducts_113 : decode b_P_signOfProducts 113 = .ok (.lload 10, 2) := by decide +kernel
theorem d_P_signOfProducts_115 : decode b_P_signOfProducts 115 = .ok (.lmul, 1) := by decide +kernel
theorem d_P_signOfProducts_116 : decode b_P_signOfProducts 116 = .ok (.ladd, 1) := by decide +kernel
theorem d_P_signOfProducts_117 : decode b_P_signOfProducts 117 = .ok (.lload 14, 2) := by decide +kernel
theorem d_P_signOfProducts_119 : decode b_P_signOfProducts 119 = .ok (.bipush 15, 2) := by decide +kernel
theorem d_P_signOfProducts_121 : decode b_P_signOfProducts 121 = .ok (.lshr, 1) := by decide +kernel
theorem d_P_signOfProducts_122 : decode b_P_signOfProducts 122 = .ok (.ladd, 1) := by decide +kernel
theorem d_P_signOfProducts_123 : decode b_P_signOfProducts 123 = .ok (.lstore 16, 2) := by decide +kernel
theorem d_P_signOfProducts_125 : decode b_P_signOfProducts 125 = .ok (.lload 16, 2) := by decide +kernel
theorem d_P_signOfProducts_127 : decode b_P_signOfProducts 127 = .ok (.lconst 0, 1) := by decide +kernel
theorem d_P_signOfProducts_128 : decode b_P_signOfProducts 128 = .ok (.lcmp, 1) := by decide +kernel
theorem d_P_signOfProducts_129 : decode b_P_signOfProducts 129 = .ok (.ifCond .eq 9, 3) := by decide +kernel
theorem d_P_signOfProducts_132 : decode b_P_signOfProducts 132 = .ok (.lload 16, 2) := by decide +kernel
theorem d_P_signOfProducts_134 : decode b_P_signOfProducts 134 = .ok (.invokestatic 37, 3) := by decide +kernel
theorem d_P_signOfProducts_137 : decode b_P_signOfProducts 137 = .ok (.ireturn, 1) := by decide +kernel
theorem d_P_signOfProducts_138 : decode b_P_signOfProducts 138 = .ok (.lload 14, 2) := by decide +kernel
theorem d_P_signOfProducts_140 : decode b_P_signOfProducts 140 = .ok (.lload 12, 2) := by decide +kernel
theorem d_P_signOfProducts_142 : decode b_P_signOfProducts 142 = .ok (.lor, 1) := by decide +kernel
theorem d_P_signOfProducts_143 : decode b_P_signOfProducts 143 = .ok (.ldc2_w 45, 3) := by decide +kernel
theorem d_P_signOfProducts_146 : decode b_P_signOfProducts 146 = .ok (.land, 1) := by decide +kernel
theorem d_P_signOfProducts_147 : decode b_P_signOfProducts 147 = .ok (.invokestatic 37, 3) := by decide +kernel
theorem d_P_signOfProducts_150 : decode b_P_signOfProducts 150 = .ok (.ireturn, 1) := by decide +kernel
end
section
theorem d_F_init_0 : decode b_F_init 0 = .ok (.aload_n 0, 1) := by decide +kernel
theorem d_F_init_1 : decode b_F_init 1 = .ok (.invokespecial 3, 3) := by decide +kernel
theorem d_F_init_4 : decode b_F_init 4 = .ok (.aload_n 0, 1) := by decide +kernel
theorem d_F_init_5 : decode b_F_init 5 = .ok (.new 9, 3) := by decide +kernel
theorem d_F_init_8 : decode b_F_init 8 = .ok (.dup, 1) := by decide +kernel
theorem d_F_init_9 : decode b_F_init 9 = .ok (.invokespecial 11, 3) := by decide +kernel
theorem d_F_init_12 : decode b_F_init 12 = .ok (.putfield 12, 3) := by decide +kernel
theorem d_F_init_15 : decode b_F_init 15 = .ok (.aload_n 0, 1) := by decide +kernel
theorem d_F_init_16 : decode b_F_init 16 = .ok (.new 16, 3) := by decide +kernel
theorem d_F_init_19 : decode b_F_init 19 = .ok (.dup, 1) := by decide +kernel
theorem d_F_init_20 : decode b_F_init 20 = .ok (.invokespecial 18, 3) := by decide +kernel
theorem d_F_init_23 : decode b_F_init 23 = .ok (.putfield 19, 3) := by decide +kernel
theorem d_F_init_26 : decode b_F_init 26 = .ok (.aload_n 0, 1) := by decide +kernel
theorem d_F_init_27 : decode b_F_init 27 = .ok (.new 23, 3) := by decide +kernel
theorem d_F_init_30 : decode b_F_init 30 = .ok (.dup, 1) := by decide +kernel
theorem d_F_init_31 : decode b_F_init 31 = .ok (.invokespecial 25, 3) := by decide +kernel
theorem d_F_init_34 : decode b_F_init 34 = .ok (.putfield 26, 3) := by decide +kernel
theorem d_F_init_37 : decode b_F_init 37 = .ok (.aload_n 0, 1) := by decide +kernel
theorem d_F_init_38 : decode b_F_init 38 = .ok (.iconst 0, 1) := by decide +kernel
theorem d_F_init_39 : decode b_F_init 39 = .ok (.putfield 30, 3) := by decide +kernel
theorem d_F_init_42 : decode b_F_init 42 = .ok (.return_, 1) := by decide +kernel
theorem d_F_insert_0 : decode b_F_insert 0 = .ok (.iload_n 1, 1) := by decide +kernel
theorem d_F_insert_1 : decode b_F_insert 1 = .ok (.iload_n 2, 1) := by decide +kernel
theorem d_F_insert_2 : decode b_F_insert 2 = .ok (.invokestatic 34, 3) := by decide +kernel
theorem d_F_insert_5 : decode b_F_insert 5 = .ok (.ifCond .ne 6, 3) := by decide +kernel
theorem d_F_insert_8 : decode b_F_insert 8 = .ok (.bipush (-2), 2) := by decide +kernel
theorem d_F_insert_10 : decode b_F_insert 10 = .ok (.ireturn, 1) := by decide +kernel
theorem d_F_insert_11 : decode b_F_insert 11 = .ok (.aload_n 0, 1) := by decide +kernel
theorem d_F_insert_12 : decode b_F_insert 12 = .ok (.getfield 12, 3) := by decide +kernel
theorem d_F_insert_15 : decode b_F_insert 15 = .ok (.iload_n 1, 1) := by decide +kernel
theorem d_F_insert_16 : decode b_F_insert 16 = .ok (.iload_n 2, 1) := by decide +kernel
theorem d_F_insert_17 : decode b_F_insert 17 = .ok (.invokevirtual 38, 3) := by decide +kernel
theorem d_F_insert_20 : decode b_F_insert 20 = .ok (.iconst (-1), 1) := by decide +kernel
theorem d_F_insert_21 : decode b_F_insert 21 = .ok (.if_icmp .eq 6, 3) := by decide +kernel
theorem d_F_insert_24 : decode b_F_insert 24 = .ok (.bipush (-3), 2) := by decide +kernel
theorem d_F_insert_26 : decode b_F_insert 26 = .ok (.ireturn, 1) := by decide +kernel
theorem d_F_insert_27 : decode b_F_insert 27 = .ok (.aload_n 0, 1) := by decide +kernel
theorem d_F_insert_28 : decode b_F_insert 28 = .ok (.getfield 12, 3) := by decide +kernel
theorem d_F_insert_31 : decode b_F_insert 31 = .ok (.invokevirtual 42, 3) := by decide +kernel
theorem d_F_insert_34 : decode b_F_insert 34 = .ok (.istore_n 3, 1) := by decide +kernel
theorem d_F_insert_35 : decode b_F_insert 35 = .ok (.iload_n 3, 1) := by decide +kernel
theorem d_F_insert_36 : decode b_F_insert 36 = .ok (.iconst (-1), 1) := by decide +kernel
theorem d_F_insert_37 : decode b_F_insert 37 = .ok (.if_icmp .ne 6, 3) := by decide +kernel
theorem d_F_insert_40 : decode b_F_insert 40 = .ok (.bipush (-4), 2) := by decide +kernel
theorem d_F_insert_42 : decode b_F_insert 42 = .ok (.ireturn, 1) := by decide +kernel
theorem d_F_insert_43 : decode b_F_insert 43 = .ok (.aload_n 0, 1) := by decide +kernel
theorem d_F_insert_44 : decode b_F_insert 44 = .ok (.getfield 12, 3) := by decide +kernel
theorem d_F_insert_47 : decode b_F_insert 47 = .ok (.iload_n 3, 1) := by decide +kernel
theorem d_F_insert_48 : decode b_F_insert 48 = .ok (.iload_n 1, 1) := by decide +kernel
theorem d_F_insert_49 : decode b_F_insert 49 = .ok (.iload_n 2, 1) := by decide +kernel
theorem d_F_insert_50 : decode b_F_insert 50 = .ok (.invokevirtual 46, 3) := by decide +kernel
theorem d_F_insert_53 : decode b_F_insert 53 = .ok (.aload_n 0, 1) := by decide +kernel
theorem d_F_insert_54 : decode b_F_insert 54 = .ok (.iconst 1, 1) := by decide +kernel
theorem d_F_insert_55 : decode b_F_insert 55 = .ok (.putfield 30, 3) := by decide +kernel
theorem d_F_insert_58 : decode b_F_insert 58 = .ok (.iload_n 3, 1) := by decide +kernel
theorem d_F_insert_59 : decode b_F_insert 59 = .ok (.ireturn, 1) := by decide +kernel
theorem d_F_remove_0 : decode b_F_remove 0 = .ok (.aload_n 0, 1) := by decide +kernel
theorem d_F_remove_1 : decode b_F_remove 1 = .ok (.getfield 12, 3) := by decide +kernel
theorem d_F_remove_4 : decode b_F_remove 4 = .ok (.iload_n 1, 1) := by decide +kernel
theorem d_F_remove_5 : decode b_F_remove 5 = .ok (.invokevirtual 50, 3) := by decide +kernel
theorem d_F_remove_8 : decode b_F_remove 8 = .ok (.ifCond .ne 5, 3) := by decide +kernel
theorem d_F_remove_11 : decode b_F_remove 11 = .ok (.iconst 0, 1) := by decide +kernel
theorem d_F_remove_12 : decode b_F_remove 12 = .ok (.ireturn, 1) := by decide +kernel
theorem d_F_remove_13 : decode b_F_remove 13 = .ok (.aload_n 0, 1) := by decide +kernel
theorem d_F_remove_14 : decode b_F_remove 14 = .ok (.getfield 12, 3) := by decide +kernel
theorem d_F_remove_17 : decode b_F_remove 17 = .ok (.iload_n 1, 1) := by decide +kernel
theorem d_F_remove_18 : decode b_F_remove 18 = .ok (.invokevirtual 54, 3) := by decide +kernel
theorem d_F_remove_21 : decode b_F_remove 21 = .ok (.aload_n 0, 1) := by decide +kernel
theorem d_F_remove_22 : decode b_F_remove 22 = .ok (.iconst 1, 1) := by decide +kernel
theorem d_F_remove_23 : decode b_F_remove 23 = .ok (.putfield 30, 3) := by decide +kernel
theorem d_F_remove_26 : decode b_F_remove 26 = .ok (.iconst 1, 1) := by decide +kernel
theorem d_F_remove_27 : decode b_F_remove 27 = .ok (.ireturn, 1) := by decide +kernel
theorem d_F_move_0 : decode b_F_move 0 = .ok (.aload_n 0, 1) := by decide +kernel
theorem d_F_move_1 : decode b_F_move 1 = .ok (.getfield 12, 3) := by decide +kernel
theorem d_F_move_4 : decode b_F_move 4 = .ok (.iload_n 1, 1) := by decide +kernel
theorem d_F_move_5 : decode b_F_move 5 = .ok (.invokevirtual 50, 3) := by decide +kernel
theorem d_F_move_8 : decode b_F_move 8 = .ok (.ifCond .ne 5, 3) := by decide +kernel
theorem d_F_move_11 : decode b_F_move 11 = .ok (.iconst (-1), 1) := by decide +kernel
theorem d_F_move_12 : decode b_F_move 12 = .ok (.ireturn, 1) := by decide +kernel
theorem d_F_move_13 : decode b_F_move 13 = .ok (.iload_n 2, 1) := by decide +kernel
theorem d_F_move_14 : decode b_F_move 14 = .ok (.iload_n 3, 1) := by decide +kernel
theorem d_F_move_15 : decode b_F_move 15 = .ok (.invokestatic 34, 3) := by decide +kernel
theorem d_F_move_18 : decode b_F_move 18 = .ok (.ifCond .ne 6, 3) := by decide +kernel
theorem d_F_move_21 : decode b_F_move 21 = .ok (.bipush (-2), 2) := by decide +kernel
theorem d_F_move_23 : decode b_F_move 23 = .ok (.ireturn, 1) := by decide +kernel
theorem d_F_move_24 : decode b_F_move 24 = .ok (.aload_n 0, 1) := by decide +kernel
theorem d_F_move_25 : decode b_F_move 25 = .ok (.getfield 12, 3) := by decide +kernel
theorem d_F_move_28 : decode b_F_move 28 = .ok (.iload_n 2, 1) := by decide +kernel
theorem d_F_move_29 : decode b_F_move 29 = .ok (.iload_n 3, 1) := by decide +kernel
theorem d_F_move_30 : decode b_F_move 30 = .ok (.invokevirtual 38, 3) := by decide +kernel
theorem d_F_move_33 : decode b_F_move 33 = .ok (.istore 4, 2) := by decide +kernel
theorem d_F_move_35 : decode b_F_move 35 = .ok (.iload 4, 2) := by decide +kernel
theorem d_F_move_37 : decode b_F_move 37 = .ok (.iload_n 1, 1) := by decide +kernel
theorem d_F_move_38 : decode b_F_move 38 = .ok (.if_icmp .ne 5, 3) := by decide +kernel
theorem d_F_move_41 : decode b_F_move 41 = .ok (.iload_n 1, 1) := by decide +kernel
theorem d_F_move_42 : decode b_F_move 42 = .ok (.ireturn, 1) := by decide +kernel
theorem d_F_move_43 : decode b_F_move 43 = .ok (.iload 4, 2) := by decide +kernel
theorem d_F_move_45 : decode b_F_move 45 = .ok (.iconst (-1), 1) := by decide +kernel
theorem d_F_move_46 : decode b_F_move 46 = .ok (.if_icmp .eq 6, 3) := by decide +kernel
theorem d_F_move_49 : decode b_F_move 49 = .ok (.bipush (-3), 2) := by decide +kernel
theorem d_F_move_51 : decode b_F_move 51 = .ok (.ireturn, 1) := by decide +kernel
theorem d_F_move_52 : decode b_F_move 52 = .ok (.aload_n 0, 1) := by decide +kernel
theorem d_F_move_53 : decode b_F_move 53 = .ok (.getfield 12, 3) := by decide +kernel
theorem d_F_move_56 : decode b_F_move 56 = .ok (.iload_n 1, 1) := by decide +kernel
theorem d_F_move_57 : decode b_F_move 57 = .ok (.invokevirtual 54, 3) := by decide +kernel
theorem d_F_move_60 : decode b_F_move 60 = .ok (.aload_n 0, 1) := by decide +kernel
theorem d_F_move_61 : decode b_F_move 61 = .ok (.getfield 12, 3) := by decide +kernel
theorem d_F_move_64 : decode b_F_move 64 = .ok (.iload_n 1, 1) := by decide +kernel
theorem d_F_move_65 : decode b_F_move 65 = .ok (.iload_n 2, 1) := by decide +kernel
theorem d_F_move_66 : decode b_F_move 66 = .ok (.iload_n 3, 1) := by decide +kernel
theorem d_F_move_67 : decode b_F_move 67 = .ok (.invokevirtual 46, 3) := by decide +kernel
theorem d_F_move_70 : decode b_F_move 70 = .ok (.aload_n 0, 1) := by decide +kernel
theorem d_F_move_71 : decode b_F_move 71 = .ok (.iconst 1, 1) := by decide +kernel
theorem d_F_move_72 : decode b_F_move 72 = .ok (.putfield 30, 3) := by decide +kernel
theorem d_F_move_75 : decode b_F_move 75 = .ok (.iload_n 1, 1) := by decide +kernel
theorem d_F_move_76 : decode b_F_move 76 = .ok (.ireturn, 1) := by decide +kernel
theorem d_F_sites_0 : decode b_F_sites 0 = .ok (.aload_n 0, 1) := by decide +kernel
theorem d_F_sites_1 : decode b_F_sites 1 = .ok (.getfield 12, 3) := by decide +kernel
theorem d_F_sites_4 : decode b_F_sites 4 = .ok (.invokevirtual 58, 3) := by decide +kernel
theorem d_F_sites_7 : decode b_F_sites 7 = .ok (.ireturn, 1) := by decide +kernel
theorem d_F_coordinate_0 : decode b_F_coordinate 0 = .ok (.aload_n 0, 1) := by decide +kernel
theorem d_F_coordinate_1 : decode b_F_coordinate 1 = .ok (.getfield 12, 3) := by decide +kernel
theorem d_F_coordinate_4 : decode b_F_coordinate 4 = .ok (.iload_n 1, 1) := by decide +kernel
theorem d_F_coordinate_5 : decode b_F_coordinate 5 = .ok (.invokevirtual 50, 3) := by decide +kernel
theorem d_F_coordinate_8 : decode b_F_coordinate 8 = .ok (.ifCond .eq 12, 3) := by decide +kernel
theorem d_F_coordinate_11 : decode b_F_coordinate 11 = .ok (.iload_n 2, 1) := by decide +kernel
theorem d_F_coordinate_12 : decode b_F_coordinate 12 = .ok (.ifCond .lt 8, 3) := by decide +kernel
theorem d_F_coordinate_15 : decode b_F_coordinate 15 = .ok (.iload_n 2, 1) := by decide +kernel
theorem d_F_coordinate_16 : decode b_F_coordinate 16 = .ok (.iconst 1, 1) := by decide +kernel
theorem d_F_coordinate_17 : decode b_F_coordinate 17 = .ok (.if_icmp .le 6, 3) := by decide +kernel
theorem d_F_coordinate_20 : decode b_F_coordinate 20 = .ok (.ldc 61, 2) := by decide +kernel
theorem d_F_coordinate_22 : decode b_F_coordinate 22 = .ok (.ireturn, 1) := by decide +kernel
theorem d_F_coordinate_23 : decode b_F_coordinate 23 = .ok (.iload_n 2, 1) := by decide +kernel
theorem d_F_coordinate_24 : decode b_F_coordinate 24 = .ok (.ifCond .ne 14, 3) := by decide +kernel
theorem d_F_coordinate_27 : decode b_F_coordinate 27 = .ok (.aload_n 0, 1) := by decide +kernel
theorem d_F_coordinate_28 : decode b_F_coordinate 28 = .ok (.getfield 12, 3) := by decide +kernel
theorem d_F_coordinate_31 : decode b_F_coordinate 31 = .ok (.iload_n 1, 1) := by decide +kernel
theorem d_F_coordinate_32 : decode b_F_coordinate 32 = .ok (.invokevirtual 62, 3) := by decide +kernel
theorem d_F_coordinate_35 : decode b_F_coordinate 35 = .ok (.goto 11, 3) := by decide +kernel
theorem d_F_coordinate_38 : decode b_F_coordinate 38 = .ok (.aload_n 0, 1) := by decide +kernel
theorem d_F_coordinate_39 : decode b_F_coordinate 39 = .ok (.getfield 12, 3) := by decide +kernel
theorem d_F_coordinate_42 : decode b_F_coordinate 42 = .ok (.iload_n 1, 1) := by decide +kernel
theorem d_F_coordinate_43 : decode b_F_coordinate 43 = .ok (.invokevirtual 66, 3) := by decide +kernel
theorem d_F_coordinate_46 : decode b_F_coordinate 46 = .ok (.ireturn, 1) := by decide +kernel
theorem d_F_triangles_0 : decode b_F_triangles 0 = .ok (.aload_n 0, 1) := by decide +kernel
theorem d_F_triangles_1 : decode b_F_triangles 1 = .ok (.invokevirtual 69, 3) := by decide +kernel
theorem d_F_triangles_4 : decode b_F_triangles 4 = .ok (.aload_n 0, 1) := by decide +kernel
theorem d_F_triangles_5 : decode b_F_triangles 5 = .ok (.getfield 26, 3) := by decide +kernel
theorem d_F_triangles_8 : decode b_F_triangles 8 = .ok (.invokevirtual 72, 3) := by decide +kernel
theorem d_F_triangles_11 : decode b_F_triangles 11 = .ok (.ireturn, 1) := by decide +kernel
theorem d_F_triangle_0 : decode b_F_triangle 0 = .ok (.aload_n 0, 1) := by decide +kernel
theorem d_F_triangle_1 : decode b_F_triangle 1 = .ok (.invokevirtual 69, 3) := by decide +kernel
theorem d_F_triangle_4 : decode b_F_triangle 4 = .ok (.aload_n 0, 1) := by decide +kernel
theorem d_F_triangle_5 : decode b_F_triangle 5 = .ok (.getfield 26, 3) := by decide +kernel
theorem d_F_triangle_8 : decode b_F_triangle 8 = .ok (.iload_n 1, 1) := by decide +kernel
theorem d_F_triangle_9 : decode b_F_triangle 9 = .ok (.invokevirtual 73, 3) := by decide +kernel
theorem d_F_triangle_12 : decode b_F_triangle 12 = .ok (.ifCond .ne 5, 3) := by decide +kernel
theorem d_F_triangle_15 : decode b_F_triangle 15 = .ok (.iconst (-1), 1) := by decide +kernel
theorem d_F_triangle_16 : decode b_F_triangle 16 = .ok (.ireturn, 1) := by decide +kernel
theorem d_F_triangle_17 : decode b_F_triangle 17 = .ok (.aload_n 0, 1) := by decide +kernel
theorem d_F_triangle_18 : decode b_F_triangle 18 = .ok (.getfield 26, 3) := by decide +kernel
theorem d_F_triangle_21 : decode b_F_triangle 21 = .ok (.iload_n 1, 1) := by decide +kernel
theorem d_F_triangle_22 : decode b_F_triangle 22 = .ok (.iconst 0, 1) := by decide +kernel
theorem d_F_triangle_23 : decode b_F_triangle 23 = .ok (.invokevirtual 74, 3) := by decide +kernel
theorem d_F_triangle_26 : decode b_F_triangle 26 = .ok (.bipush 32, 2) := by decide +kernel
theorem d_F_triangle_28 : decode b_F_triangle 28 = .ok (.aload_n 0, 1) := by decide +kernel
theorem d_F_triangle_29 : decode b_F_triangle 29 = .ok (.getfield 26, 3) := by decide +kernel
theorem d_F_triangle_32 : decode b_F_triangle 32 = .ok (.iload_n 1, 1) := by decide +kernel
theorem d_F_triangle_33 : decode b_F_triangle 33 = .ok (.iconst 1, 1) := by decide +kernel
theorem d_F_triangle_34 : decode b_F_triangle 34 = .ok (.invokevirtual 74, 3) := by decide +kernel
theorem d_F_triangle_37 : decode b_F_triangle 37 = .ok (.imul, 1) := by decide +kernel
theorem d_F_triangle_38 : decode b_F_triangle 38 = .ok (.iadd, 1) := by decide +kernel
theorem d_F_triangle_39 : decode b_F_triangle 39 = .ok (.sipush 1024, 3) := by decide +kernel
theorem d_F_triangle_42 : decode b_F_triangle 42 = .ok (.aload_n 0, 1) := by decide +kernel
theorem d_F_triangle_43 : decode b_F_triangle 43 = .ok (.getfield 26, 3) := by decide +kernel
theorem d_F_triangle_46 : decode b_F_triangle 46 = .ok (.iload_n 1, 1) := by decide +kernel
theorem d_F_triangle_47 : decode b_F_triangle 47 = .ok (.iconst 2, 1) := by decide +kernel
theorem d_F_triangle_48 : decode b_F_triangle 48 = .ok (.invokevirtual 74, 3) := by decide +kernel
theorem d_F_triangle_51 : decode b_F_triangle 51 = .ok (.imul, 1) := by decide +kernel
theorem d_F_triangle_52 : decode b_F_triangle 52 = .ok (.iadd, 1) := by decide +kernel
theorem d_F_triangle_53 : decode b_F_triangle 53 = .ok (.ireturn, 1) := by decide +kernel
theorem d_F_number_0 : decode b_F_number 0 = .ok (.aload_n 0, 1) := by decide +kernel
theorem d_F_number_1 : decode b_F_number 1 = .ok (.getfield 12, 3) := by decide +kernel
theorem d_F_number_4 : decode b_F_number 4 = .ok (.iload_n 1, 1) := by decide +kernel
theorem d_F_number_5 : decode b_F_number 5 = .ok (.invokevirtual 50, 3) := by decide +kernel
theorem d_F_number_8 : decode b_F_number 8 = .ok (.ifCond .eq 25, 3) := by decide +kernel
theorem d_F_number_11 : decode b_F_number 11 = .ok (.aload_n 0, 1) := by decide +kernel
theorem d_F_number_12 : decode b_F_number 12 = .ok (.getfield 12, 3) := by decide +kernel
theorem d_F_number_15 : decode b_F_number 15 = .ok (.iload_n 2, 1) := by decide +kernel
theorem d_F_number_16 : decode b_F_number 16 = .ok (.invokevirtual 50, 3) := by decide +kernel
theorem d_F_number_19 : decode b_F_number 19 = .ok (.ifCond .eq 14, 3) := by decide +kernel
theorem d_F_number_22 : decode b_F_number 22 = .ok (.aload_n 0, 1) := by decide +kernel
theorem d_F_number_23 : decode b_F_number 23 = .ok (.getfield 12, 3) := by decide +kernel
theorem d_F_number_26 : decode b_F_number 26 = .ok (.iload_n 3, 1) := by decide +kernel
theorem d_F_number_27 : decode b_F_number 27 = .ok (.invokevirtual 50, 3) := by decide +kernel
theorem d_F_number_30 : decode b_F_number 30 = .ok (.ifCond .ne 5, 3) := by decide +kernel
theorem d_F_number_33 : decode b_F_number 33 = .ok (.iconst (-1), 1) := by decide +kernel
theorem d_F_number_34 : decode b_F_number 34 = .ok (.ireturn, 1) := by decide +kernel
theorem d_F_number_35 : decode b_F_number 35 = .ok (.aload_n 0, 1) := by decide +kernel
theorem d_F_number_36 : decode b_F_number 36 = .ok (.invokevirtual 69, 3) := by decide +kernel
theorem d_F_number_39 : decode b_F_number 39 = .ok (.iconst 1, 1) := by decide +kernel
theorem d_F_number_40 : decode b_F_number 40 = .ok (.iload_n 1, 1) := by decide +kernel
theorem d_F_number_41 : decode b_F_number 41 = .ok (.ishl, 1) := by decide +kernel
theorem d_F_number_42 : decode b_F_number 42 = .ok (.iconst 1, 1) := by decide +kernel
theorem d_F_number_43 : decode b_F_number 43 = .ok (.iload_n 2, 1) := by decide +kernel
theorem d_F_number_44 : decode b_F_number 44 = .ok (.ishl, 1) := by decide +kernel
theorem d_F_number_45 : decode b_F_number 45 = .ok (.ior, 1) := by decide +kernel
theorem d_F_number_46 : decode b_F_number 46 = .ok (.iconst 1, 1) := by decide +kernel
theorem d_F_number_47 : decode b_F_number 47 = .ok (.iload_n 3, 1) := by decide +kernel
theorem d_F_number_48 : decode b_F_number 48 = .ok (.ishl, 1) := by decide +kernel
theorem d_F_number_49 : decode b_F_number 49 = .ok (.ior, 1) := by decide +kernel
theorem d_F_number_50 : decode b_F_number 50 = .ok (.istore 4, 2) := by decide +kernel
theorem d_F_number_52 : decode b_F_number 52 = .ok (.iconst 0, 1) := by decide +kernel
theorem d_F_number_53 : decode b_F_number 53 = .ok (.istore 5, 2) := by decide +kernel
theorem d_F_number_55 : decode b_F_number 55 = .ok (.iload 5, 2) := by decide +kernel
theorem d_F_number_57 : decode b_F_number 57 = .ok (.aload_n 0, 1) := by decide +kernel
theorem d_F_number_58 : decode b_F_number 58 = .ok (.getfield 26, 3) := by decide +kernel
theorem d_F_number_61 : decode b_F_number 61 = .ok (.invokevirtual 72, 3) := by decide +kernel
theorem d_F_number_64 : decode b_F_number 64 = .ok (.if_icmp .ge 26, 3) := by decide +kernel
theorem d_F_number_67 : decode b_F_number 67 = .ok (.aload_n 0, 1) := by decide +kernel
theorem d_F_number_68 : decode b_F_number 68 = .ok (.getfield 26, 3) := by decide +kernel
theorem d_F_number_71 : decode b_F_number 71 = .ok (.iload 5, 2) := by decide +kernel
theorem d_F_number_73 : decode b_F_number 73 = .ok (.invokevirtual 77, 3) := by decide +kernel
theorem d_F_number_76 : decode b_F_number 76 = .ok (.iload 4, 2) := by decide +kernel
theorem d_F_number_78 : decode b_F_number 78 = .ok (.if_icmp .ne 6, 3) := by decide +kernel
theorem d_F_number_81 : decode b_F_number 81 = .ok (.iload 5, 2) := by decide +kernel
theorem d_F_number_83 : decode b_F_number 83 = .ok (.ireturn, 1) := by decide +kernel
theorem d_F_number_84 : decode b_F_number 84 = .ok (.iinc 5 1, 3) := by decide +kernel
theorem d_F_number_87 : decode b_F_number 87 = .ok (.goto (-32), 3) := by decide +kernel
theorem d_F_number_90 : decode b_F_number 90 = .ok (.iconst (-1), 1) := by decide +kernel
theorem d_F_number_91 : decode b_F_number 91 = .ok (.ireturn, 1) := by decide +kernel
theorem d_F_across_0 : decode b_F_across 0 = .ok (.aload_n 0, 1) := by decide +kernel
theorem d_F_across_1 : decode b_F_across 1 = .ok (.invokevirtual 69, 3) := by decide +kernel
theorem d_F_across_4 : decode b_F_across 4 = .ok (.aload_n 0, 1) := by decide +kernel
theorem d_F_across_5 : decode b_F_across 5 = .ok (.getfield 26, 3) := by decide +kernel
theorem d_F_across_8 : decode b_F_across 8 = .ok (.iload_n 1, 1) := by decide +kernel
theorem d_F_across_9 : decode b_F_across 9 = .ok (.invokevirtual 73, 3) := by decide +kernel
theorem d_F_across_12 : decode b_F_across 12 = .ok (.ifCond .eq 12, 3) := by decide +kernel
theorem d_F_across_15 : decode b_F_across 15 = .ok (.iload_n 2, 1) := by decide +kernel
theorem d_F_across_16 : decode b_F_across 16 = .ok (.ifCond .lt 8, 3) := by decide +kernel
theorem d_F_across_19 : decode b_F_across 19 = .ok (.iload_n 2, 1) := by decide +kernel
theorem d_F_across_20 : decode b_F_across 20 = .ok (.iconst 2, 1) := by decide +kernel
theorem d_F_across_21 : decode b_F_across 21 = .ok (.if_icmp .le 5, 3) := by decide +kernel
theorem d_F_across_24 : decode b_F_across 24 = .ok (.iconst (-1), 1) := by decide +kernel
theorem d_F_across_25 : decode b_F_across 25 = .ok (.ireturn, 1) := by decide +kernel
theorem d_F_across_26 : decode b_F_across 26 = .ok (.aload_n 0, 1) := by decide +kernel
theorem d_F_across_27 : decode b_F_across 27 = .ok (.getfield 26, 3) := by decide +kernel
theorem d_F_across_30 : decode b_F_across 30 = .ok (.iload_n 1, 1) := by decide +kernel
theorem d_F_across_31 : decode b_F_across 31 = .ok (.invokevirtual 77, 3) := by decide +kernel
theorem d_F_across_34 : decode b_F_across 34 = .ok (.iconst 1, 1) := by decide +kernel
theorem d_F_across_35 : decode b_F_across 35 = .ok (.aload_n 0, 1) := by decide +kernel
theorem d_F_across_36 : decode b_F_across 36 = .ok (.getfield 26, 3) := by decide +kernel
theorem d_F_across_39 : decode b_F_across 39 = .ok (.iload_n 1, 1) := by decide +kernel
theorem d_F_across_40 : decode b_F_across 40 = .ok (.iload_n 2, 1) := by decide +kernel
theorem d_F_across_41 : decode b_F_across 41 = .ok (.invokevirtual 74, 3) := by decide +kernel
theorem d_F_across_44 : decode b_F_across 44 = .ok (.ishl, 1) := by decide +kernel
theorem d_F_across_45 : decode b_F_across 45 = .ok (.iconst (-1), 1) := by decide +kernel
theorem d_F_across_46 : decode b_F_across 46 = .ok (.ixor, 1) := by decide +kernel
theorem d_F_across_47 : decode b_F_across 47 = .ok (.iand, 1) := by decide +kernel
theorem d_F_across_48 : decode b_F_across 48 = .ok (.istore_n 3, 1) := by decide +kernel
theorem d_F_across_49 : decode b_F_across 49 = .ok (.iconst 0, 1) := by decide +kernel
theorem d_F_across_50 : decode b_F_across 50 = .ok (.istore 4, 2) := by decide +kernel
theorem d_F_across_52 : decode b_F_across 52 = .ok (.iload 4, 2) := by decide +kernel
theorem d_F_across_54 : decode b_F_across 54 = .ok (.aload_n 0, 1) := by decide +kernel
theorem d_F_across_55 : decode b_F_across 55 = .ok (.getfield 26, 3) := by decide +kernel
theorem d_F_across_58 : decode b_F_across 58 = .ok (.invokevirtual 72, 3) := by decide +kernel
theorem d_F_across_61 : decode b_F_across 61 = .ok (.if_icmp .ge 33, 3) := by decide +kernel
theorem d_F_across_64 : decode b_F_across 64 = .ok (.iload 4, 2) := by decide +kernel
theorem d_F_across_66 : decode b_F_across 66 = .ok (.iload_n 1, 1) := by decide +kernel
theorem d_F_across_67 : decode b_F_across 67 = .ok (.if_icmp .eq 21, 3) := by decide +kernel
theorem d_F_across_70 : decode b_F_across 70 = .ok (.aload_n 0, 1) := by decide +kernel
theorem d_F_across_71 : decode b_F_across 71 = .ok (.getfield 26, 3) := by decide +kernel
theorem d_F_across_74 : decode b_F_across 74 = .ok (.iload 4, 2) := by decide +kernel
theorem d_F_across_76 : decode b_F_across 76 = .ok (.invokevirtual 77, 3) := by decide +kernel
theorem d_F_across_79 : decode b_F_across 79 = .ok (.iload_n 3, 1) := by decide +kernel
theorem d_F_across_80 : decode b_F_across 80 = .ok (.iand, 1) := by decide +kernel
theorem d_F_across_81 : decode b_F_across 81 = .ok (.iload_n 3, 1) := by decide +kernel
theorem d_F_across_82 : decode b_F_across 82 = .ok (.if_icmp .ne 6, 3) := by decide +kernel
theorem d_F_across_85 : decode b_F_across 85 = .ok (.iload 4, 2) := by decide +kernel
theorem d_F_across_87 : decode b_F_across 87 = .ok (.ireturn, 1) := by decide +kernel
theorem d_F_across_88 : decode b_F_across 88 = .ok (.iinc 4 1, 3) := by decide +kernel
theorem d_F_across_91 : decode b_F_across 91 = .ok (.goto (-39), 3) := by decide +kernel
theorem d_F_across_94 : decode b_F_across 94 = .ok (.iconst (-1), 1) := by decide +kernel
theorem d_F_across_95 : decode b_F_across 95 = .ok (.ireturn, 1) := by decide +kernel
theorem d_F_corners_0 : decode b_F_corners 0 = .ok (.aload_n 0, 1) := by decide +kernel
theorem d_F_corners_1 : decode b_F_corners 1 = .ok (.invokevirtual 69, 3) := by decide +kernel
theorem d_F_corners_4 : decode b_F_corners 4 = .ok (.aload_n 0, 1) := by decide +kernel
theorem d_F_corners_5 : decode b_F_corners 5 = .ok (.getfield 26, 3) := by decide +kernel
theorem d_F_corners_8 : decode b_F_corners 8 = .ok (.iload_n 1, 1) := by decide +kernel
theorem d_F_corners_9 : decode b_F_corners 9 = .ok (.invokevirtual 73, 3) := by decide +kernel
theorem d_F_corners_12 : decode b_F_corners 12 = .ok (.ifCond .eq 14, 3) := by decide +kernel
theorem d_F_corners_15 : decode b_F_corners 15 = .ok (.aload_n 0, 1) := by decide +kernel
theorem d_F_corners_16 : decode b_F_corners 16 = .ok (.getfield 26, 3) := by decide +kernel
theorem d_F_corners_19 : decode b_F_corners 19 = .ok (.iload_n 1, 1) := by decide +kernel
theorem d_F_corners_20 : decode b_F_corners 20 = .ok (.invokevirtual 80, 3) := by decide +kernel
theorem d_F_corners_23 : decode b_F_corners 23 = .ok (.goto 4, 3) := by decide +kernel
theorem d_F_corners_26 : decode b_F_corners 26 = .ok (.iconst (-1), 1) := by decide +kernel
theorem d_F_corners_27 : decode b_F_corners 27 = .ok (.ireturn, 1) := by decide +kernel
theorem d_F_locate_0 : decode b_F_locate 0 = .ok (.iload_n 1, 1) := by decide +kernel
theorem d_F_locate_1 : decode b_F_locate 1 = .ok (.iload_n 2, 1) := by decide +kernel
theorem d_F_locate_2 : decode b_F_locate 2 = .ok (.invokestatic 34, 3) := by decide +kernel
theorem d_F_locate_5 : decode b_F_locate 5 = .ok (.ifCond .ne 5, 3) := by decide +kernel
theorem d_F_locate_8 : decode b_F_locate 8 = .ok (.iconst (-1), 1) := by decide +kernel
theorem d_F_locate_9 : decode b_F_locate 9 = .ok (.ireturn, 1) := by decide +kernel
theorem d_F_locate_10 : decode b_F_locate 10 = .ok (.aload_n 0, 1) := by decide +kernel
theorem d_F_locate_11 : decode b_F_locate 11 = .ok (.invokevirtual 69, 3) := by decide +kernel
theorem d_F_locate_14 : decode b_F_locate 14 = .ok (.iconst 0, 1) := by decide +kernel
theorem d_F_locate_15 : decode b_F_locate 15 = .ok (.istore_n 3, 1) := by decide +kernel
theorem d_F_locate_16 : decode b_F_locate 16 = .ok (.iload_n 3, 1) := by decide +kernel
theorem d_F_locate_17 : decode b_F_locate 17 = .ok (.aload_n 0, 1) := by decide +kernel
theorem d_F_locate_18 : decode b_F_locate 18 = .ok (.getfield 26, 3) := by decide +kernel
theorem d_F_locate_21 : decode b_F_locate 21 = .ok (.invokevirtual 72, 3) := by decide +kernel
theorem d_F_locate_24 : decode b_F_locate 24 = .ok (.if_icmp .ge 21, 3) := by decide +kernel
theorem d_F_locate_27 : decode b_F_locate 27 = .ok (.aload_n 0, 1) := by decide +kernel
theorem d_F_locate_28 : decode b_F_locate 28 = .ok (.iload_n 3, 1) := by decide +kernel
theorem d_F_locate_29 : decode b_F_locate 29 = .ok (.iload_n 1, 1) := by decide +kernel
theorem d_F_locate_30 : decode b_F_locate 30 = .ok (.iload_n 2, 1) := by decide +kernel
theorem d_F_locate_31 : decode b_F_locate 31 = .ok (.invokevirtual 83, 3) := by decide +kernel
theorem d_F_locate_34 : decode b_F_locate 34 = .ok (.ifCond .eq 5, 3) := by decide +kernel
theorem d_F_locate_37 : decode b_F_locate 37 = .ok (.iload_n 3, 1) := by decide +kernel
theorem d_F_locate_38 : decode b_F_locate 38 = .ok (.ireturn, 1) := by decide +kernel
theorem d_F_locate_39 : decode b_F_locate 39 = .ok (.iinc 3 1, 3) := by decide +kernel
theorem d_F_locate_42 : decode b_F_locate 42 = .ok (.goto (-26), 3) := by decide +kernel
theorem d_F_locate_45 : decode b_F_locate 45 = .ok (.iconst (-1), 1) := by decide +kernel
theorem d_F_locate_46 : decode b_F_locate 46 = .ok (.ireturn, 1) := by decide +kernel
theorem d_F_nearest_0 : decode b_F_nearest 0 = .ok (.iload_n 1, 1) := by decide +kernel
theorem d_F_nearest_1 : decode b_F_nearest 1 = .ok (.iload_n 2, 1) := by decide +kernel
theorem d_F_nearest_2 : decode b_F_nearest 2 = .ok (.invokestatic 34, 3) := by decide +kernel
theorem d_F_nearest_5 : decode b_F_nearest 5 = .ok (.ifCond .ne 5, 3) := by decide +kernel
theorem d_F_nearest_8 : decode b_F_nearest 8 = .ok (.iconst (-1), 1) := by decide +kernel
theorem d_F_nearest_9 : decode b_F_nearest 9 = .ok (.ireturn, 1) := by decide +kernel
theorem d_F_nearest_10 : decode b_F_nearest 10 = .ok (.iconst (-1), 1) := by decide +kernel
theorem d_F_nearest_11 : decode b_F_nearest 11 = .ok (.istore_n 3, 1) := by decide +kernel
theorem d_F_nearest_12 : decode b_F_nearest 12 = .ok (.lconst 0, 1) := by decide +kernel
theorem d_F_nearest_13 : decode b_F_nearest 13 = .ok (.lstore 4, 2) := by decide +kernel
theorem d_F_nearest_15 : decode b_F_nearest 15 = .ok (.iconst 0, 1) := by decide +kernel
theorem d_F_nearest_16 : decode b_F_nearest 16 = .ok (.istore 6, 2) := by decide +kernel
theorem d_F_nearest_18 : decode b_F_nearest 18 = .ok (.iload 6, 2) := by decide +kernel
theorem d_F_nearest_20 : decode b_F_nearest 20 = .ok (.bipush 20, 2) := by decide +kernel
theorem d_F_nearest_22 : decode b_F_nearest 22 = .ok (.if_icmp .ge 54, 3) := by decide +kernel
theorem d_F_nearest_25 : decode b_F_nearest 25 = .ok (.aload_n 0, 1) := by decide +kernel
theorem d_F_nearest_26 : decode b_F_nearest 26 = .ok (.getfield 12, 3) := by decide +kernel
theorem d_F_nearest_29 : decode b_F_nearest 29 = .ok (.iload 6, 2) := by decide +kernel
theorem d_F_nearest_31 : decode b_F_nearest 31 = .ok (.invokevirtual 50, 3) := by decide +kernel
theorem d_F_nearest_34 : decode b_F_nearest 34 = .ok (.ifCond .eq 36, 3) := by decide +kernel
theorem d_F_nearest_37 : decode b_F_nearest 37 = .ok (.aload_n 0, 1) := by decide +kernel
theorem d_F_nearest_38 : decode b_F_nearest 38 = .ok (.getfield 12, 3) := by decide +kernel
theorem d_F_nearest_41 : decode b_F_nearest 41 = .ok (.iload 6, 2) := by decide +kernel
theorem d_F_nearest_43 : decode b_F_nearest 43 = .ok (.iload_n 1, 1) := by decide +kernel
theorem d_F_nearest_44 : decode b_F_nearest 44 = .ok (.iload_n 2, 1) := by decide +kernel
theorem d_F_nearest_45 : decode b_F_nearest 45 = .ok (.invokevirtual 87, 3) := by decide +kernel
theorem d_F_nearest_48 : decode b_F_nearest 48 = .ok (.lstore 7, 2) := by decide +kernel
theorem d_F_nearest_50 : decode b_F_nearest 50 = .ok (.iload_n 3, 1) := by decide +kernel
theorem d_F_nearest_51 : decode b_F_nearest 51 = .ok (.iconst (-1), 1) := by decide +kernel
theorem d_F_nearest_52 : decode b_F_nearest 52 = .ok (.if_icmp .eq 11, 3) := by decide +kernel
theorem d_F_nearest_55 : decode b_F_nearest 55 = .ok (.lload 7, 2) := by decide +kernel
theorem d_F_nearest_57 : decode b_F_nearest 57 = .ok (.lload 4, 2) := by decide +kernel
theorem d_F_nearest_59 : decode b_F_nearest 59 = .ok (.lcmp, 1) := by decide +kernel
theorem d_F_nearest_60 : decode b_F_nearest 60 = .ok (.ifCond .ge 10, 3) := by decide +kernel
theorem d_F_nearest_63 : decode b_F_nearest 63 = .ok (.iload 6, 2) := by decide +kernel
theorem d_F_nearest_65 : decode b_F_nearest 65 = .ok (.istore_n 3, 1) := by decide +kernel
theorem d_F_nearest_66 : decode b_F_nearest 66 = .ok (.lload 7, 2) := by decide +kernel
theorem d_F_nearest_68 : decode b_F_nearest 68 = .ok (.lstore 4, 2) := by decide +kernel
theorem d_F_nearest_70 : decode b_F_nearest 70 = .ok (.iinc 6 1, 3) := by decide +kernel
theorem d_F_nearest_73 : decode b_F_nearest 73 = .ok (.goto (-55), 3) := by decide +kernel
theorem d_F_nearest_76 : decode b_F_nearest 76 = .ok (.iload_n 3, 1) := by decide +kernel
theorem d_F_nearest_77 : decode b_F_nearest 77 = .ok (.ireturn, 1) := by decide +kernel
theorem d_F_neighbours_0 : decode b_F_neighbours 0 = .ok (.aload_n 0, 1) := by decide +kernel
theorem d_F_neighbours_1 : decode b_F_neighbours 1 = .ok (.getfield 12, 3) := by decide +kernel
theorem d_F_neighbours_4 : decode b_F_neighbours 4 = .ok (.iload_n 1, 1) := by decide +kernel
theorem d_F_neighbours_5 : decode b_F_neighbours 5 = .ok (.invokevirtual 50, 3) := by decide +kernel
theorem d_F_neighbours_8 : decode b_F_neighbours 8 = .ok (.ifCond .ne 5, 3) := by decide +kernel
theorem d_F_neighbours_11 : decode b_F_neighbours 11 = .ok (.iconst (-1), 1) := by decide +kernel
theorem d_F_neighbours_12 : decode b_F_neighbours 12 = .ok (.ireturn, 1) := by decide +kernel
theorem d_F_neighbours_13 : decode b_F_neighbours 13 = .ok (.aload_n 0, 1) := by decide +kernel
theorem d_F_neighbours_14 : decode b_F_neighbours 14 = .ok (.invokevirtual 69, 3) := by decide +kernel
theorem d_F_neighbours_17 : decode b_F_neighbours 17 = .ok (.aload_n 0, 1) := by decide +kernel
theorem d_F_neighbours_18 : decode b_F_neighbours 18 = .ok (.getfield 26, 3) := by decide +kernel
theorem d_F_neighbours_21 : decode b_F_neighbours 21 = .ok (.iload_n 1, 1) := by decide +kernel
theorem d_F_neighbours_22 : decode b_F_neighbours 22 = .ok (.invokevirtual 91, 3) := by decide +kernel
theorem d_F_neighbours_25 : decode b_F_neighbours 25 = .ok (.ireturn, 1) := by decide +kernel
theorem d_F_boundary_0 : decode b_F_boundary 0 = .ok (.aload_n 0, 1) := by decide +kernel
theorem d_F_boundary_1 : decode b_F_boundary 1 = .ok (.invokevirtual 69, 3) := by decide +kernel
theorem d_F_boundary_4 : decode b_F_boundary 4 = .ok (.iload_n 1, 1) := by decide +kernel
theorem d_F_boundary_5 : decode b_F_boundary 5 = .ok (.ifCond .lt 25, 3) := by decide +kernel
theorem d_F_boundary_8 : decode b_F_boundary 8 = .ok (.iload_n 1, 1) := by decide +kernel
theorem d_F_boundary_9 : decode b_F_boundary 9 = .ok (.aload_n 0, 1) := by decide +kernel
theorem d_F_boundary_10 : decode b_F_boundary 10 = .ok (.getfield 19, 3) := by decide +kernel
theorem d_F_boundary_13 : decode b_F_boundary 13 = .ok (.invokevirtual 94, 3) := by decide +kernel
theorem d_F_boundary_16 : decode b_F_boundary 16 = .ok (.if_icmp .ge 14, 3) := by decide +kernel
theorem d_F_boundary_19 : decode b_F_boundary 19 = .ok (.aload_n 0, 1) := by decide +kernel
theorem d_F_boundary_20 : decode b_F_boundary 20 = .ok (.getfield 19, 3) := by decide +kernel
theorem d_F_boundary_23 : decode b_F_boundary 23 = .ok (.iload_n 1, 1) := by decide +kernel
theorem d_F_boundary_24 : decode b_F_boundary 24 = .ok (.invokevirtual 95, 3) := by decide +kernel
theorem d_F_boundary_27 : decode b_F_boundary 27 = .ok (.goto 4, 3) := by decide +kernel
theorem d_F_boundary_30 : decode b_F_boundary 30 = .ok (.iconst (-1), 1) := by decide +kernel
theorem d_F_boundary_31 : decode b_F_boundary 31 = .ok (.ireturn, 1) := by decide +kernel
theorem d_F_inside_0 : decode b_F_inside 0 = .ok (.aload_n 0, 1) := by decide +kernel
theorem d_F_inside_1 : decode b_F_inside 1 = .ok (.getfield 12, 3) := by decide +kernel
theorem d_F_inside_4 : decode b_F_inside 4 = .ok (.iload_n 1, 1) := by decide +kernel
theorem d_F_inside_5 : decode b_F_inside 5 = .ok (.invokevirtual 50, 3) := by decide +kernel
theorem d_F_inside_8 : decode b_F_inside 8 = .ok (.ifCond .eq 37, 3) := by decide +kernel
theorem d_F_inside_11 : decode b_F_inside 11 = .ok (.aload_n 0, 1) := by decide +kernel
theorem d_F_inside_12 : decode b_F_inside 12 = .ok (.getfield 12, 3) := by decide +kernel
theorem d_F_inside_15 : decode b_F_inside 15 = .ok (.iload_n 2, 1) := by decide +kernel
theorem d_F_inside_16 : decode b_F_inside 16 = .ok (.invokevirtual 50, 3) := by decide +kernel
theorem d_F_inside_19 : decode b_F_inside 19 = .ok (.ifCond .eq 26, 3) := by decide +kernel
theorem d_F_inside_22 : decode b_F_inside 22 = .ok (.aload_n 0, 1) := by decide +kernel
theorem d_F_inside_23 : decode b_F_inside 23 = .ok (.getfield 12, 3) := by decide +kernel
theorem d_F_inside_26 : decode b_F_inside 26 = .ok (.iload_n 3, 1) := by decide +kernel
theorem d_F_inside_27 : decode b_F_inside 27 = .ok (.invokevirtual 50, 3) := by decide +kernel
theorem d_F_inside_30 : decode b_F_inside 30 = .ok (.ifCond .eq 15, 3) := by decide +kernel
theorem d_F_inside_33 : decode b_F_inside 33 = .ok (.aload_n 0, 1) := by decide +kernel
theorem d_F_inside_34 : decode b_F_inside 34 = .ok (.getfield 12, 3) := by decide +kernel
theorem d_F_inside_37 : decode b_F_inside 37 = .ok (.iload 4, 2) := by decide +kernel
theorem d_F_inside_39 : decode b_F_inside 39 = .ok (.invokevirtual 50, 3) := by decide +kernel
theorem d_F_inside_42 : decode b_F_inside 42 = .ok (.ifCond .ne 5, 3) := by decide +kernel
theorem d_F_inside_45 : decode b_F_inside 45 = .ok (.iconst 2, 1) := by decide +kernel
theorem d_F_inside_46 : decode b_F_inside 46 = .ok (.ireturn, 1) := by decide +kernel
theorem d_F_inside_47 : decode b_F_inside 47 = .ok (.aload_n 0, 1) := by decide +kernel
theorem d_F_inside_48 : decode b_F_inside 48 = .ok (.getfield 12, 3) := by decide +kernel
theorem d_F_inside_51 : decode b_F_inside 51 = .ok (.iload_n 1, 1) := by decide +kernel
theorem d_F_inside_52 : decode b_F_inside 52 = .ok (.iload_n 2, 1) := by decide +kernel
theorem d_F_inside_53 : decode b_F_inside 53 = .ok (.iload_n 3, 1) := by decide +kernel
theorem d_F_inside_54 : decode b_F_inside 54 = .ok (.invokevirtual 98, 3) := by decide +kernel
theorem d_F_inside_57 : decode b_F_inside 57 = .ok (.istore 5, 2) := by decide +kernel
theorem d_F_inside_59 : decode b_F_inside 59 = .ok (.iload 5, 2) := by decide +kernel
theorem d_F_inside_61 : decode b_F_inside 61 = .ok (.ifCond .ne 5, 3) := by decide +kernel
theorem d_F_inside_64 : decode b_F_inside 64 = .ok (.iconst 2, 1) := by decide +kernel
theorem d_F_inside_65 : decode b_F_inside 65 = .ok (.ireturn, 1) := by decide +kernel
theorem d_F_inside_66 : decode b_F_inside 66 = .ok (.iload 5, 2) := by decide +kernel
theorem d_F_inside_68 : decode b_F_inside 68 = .ok (.aload_n 0, 1) := by decide +kernel
theorem d_F_inside_69 : decode b_F_inside 69 = .ok (.getfield 12, 3) := by decide +kernel
theorem d_F_inside_72 : decode b_F_inside 72 = .ok (.iload_n 1, 1) := by decide +kernel
theorem d_F_inside_73 : decode b_F_inside 73 = .ok (.iload_n 2, 1) := by decide +kernel
theorem d_F_inside_74 : decode b_F_inside 74 = .ok (.iload_n 3, 1) := by decide +kernel
theorem d_F_inside_75 : decode b_F_inside 75 = .ok (.iload 4, 2) := by decide +kernel
theorem d_F_inside_77 : decode b_F_inside 77 = .ok (.invokevirtual 102, 3) := by decide +kernel
theorem d_F_inside_80 : decode b_F_inside 80 = .ok (.imul, 1) := by decide +kernel
theorem d_F_inside_81 : decode b_F_inside 81 = .ok (.ireturn, 1) := by decide +kernel
theorem d_F_area_0 : decode b_F_area 0 = .ok (.aload_n 0, 1) := by decide +kernel
theorem d_F_area_1 : decode b_F_area 1 = .ok (.invokevirtual 69, 3) := by decide +kernel
theorem d_F_area_4 : decode b_F_area 4 = .ok (.lconst 0, 1) := by decide +kernel
theorem d_F_area_5 : decode b_F_area 5 = .ok (.lstore_n 1, 1) := by decide +kernel
theorem d_F_area_6 : decode b_F_area 6 = .ok (.iconst 2, 1) := by decide +kernel
theorem d_F_area_7 : decode b_F_area 7 = .ok (.istore_n 3, 1) := by decide +kernel
theorem d_F_area_8 : decode b_F_area 8 = .ok (.iload_n 3, 1) := by decide +kernel
theorem d_F_area_9 : decode b_F_area 9 = .ok (.aload_n 0, 1) := by decide +kernel
theorem d_F_area_10 : decode b_F_area 10 = .ok (.getfield 19, 3) := by decide +kernel
theorem d_F_area_13 : decode b_F_area 13 = .ok (.invokevirtual 94, 3) := by decide +kernel
theorem d_F_area_16 : decode b_F_area 16 = .ok (.if_icmp .ge 45, 3) := by decide +kernel
theorem d_F_area_19 : decode b_F_area 19 = .ok (.lload_n 1, 1) := by decide +kernel
theorem d_F_area_20 : decode b_F_area 20 = .ok (.aload_n 0, 1) := by decide +kernel
theorem d_F_area_21 : decode b_F_area 21 = .ok (.getfield 12, 3) := by decide +kernel
theorem d_F_area_24 : decode b_F_area 24 = .ok (.aload_n 0, 1) := by decide +kernel
theorem d_F_area_25 : decode b_F_area 25 = .ok (.getfield 19, 3) := by decide +kernel
theorem d_F_area_28 : decode b_F_area 28 = .ok (.iconst 0, 1) := by decide +kernel
theorem d_F_area_29 : decode b_F_area 29 = .ok (.invokevirtual 95, 3) := by decide +kernel
theorem d_F_area_32 : decode b_F_area 32 = .ok (.aload_n 0, 1) := by decide +kernel
theorem d_F_area_33 : decode b_F_area 33 = .ok (.getfield 19, 3) := by decide +kernel
theorem d_F_area_36 : decode b_F_area 36 = .ok (.iload_n 3, 1) := by decide +kernel
theorem d_F_area_37 : decode b_F_area 37 = .ok (.iconst 1, 1) := by decide +kernel
theorem d_F_area_38 : decode b_F_area 38 = .ok (.isub, 1) := by decide +kernel
theorem d_F_area_39 : decode b_F_area 39 = .ok (.invokevirtual 95, 3) := by decide +kernel
theorem d_F_area_42 : decode b_F_area 42 = .ok (.aload_n 0, 1) := by decide +kernel
theorem d_F_area_43 : decode b_F_area 43 = .ok (.getfield 19, 3) := by decide +kernel
theorem d_F_area_46 : decode b_F_area 46 = .ok (.iload_n 3, 1) := by decide +kernel
theorem d_F_area_47 : decode b_F_area 47 = .ok (.invokevirtual 95, 3) := by decide +kernel
theorem d_F_area_50 : decode b_F_area 50 = .ok (.invokevirtual 106, 3) := by decide +kernel
theorem d_F_area_53 : decode b_F_area 53 = .ok (.ladd, 1) := by decide +kernel
theorem d_F_area_54 : decode b_F_area 54 = .ok (.lstore_n 1, 1) := by decide +kernel
theorem d_F_area_55 : decode b_F_area 55 = .ok (.iinc 3 1, 3) := by decide +kernel
theorem d_F_area_58 : decode b_F_area 58 = .ok (.goto (-50), 3) := by decide +kernel
theorem d_F_area_61 : decode b_F_area 61 = .ok (.lload_n 1, 1) := by decide +kernel
theorem d_F_area_62 : decode b_F_area 62 = .ok (.lreturn, 1) := by decide +kernel
theorem d_F_refresh_0 : decode b_F_refresh 0 = .ok (.aload_n 0, 1) := by decide +kernel
theorem d_F_refresh_1 : decode b_F_refresh 1 = .ok (.getfield 30, 3) := by decide +kernel
theorem d_F_refresh_4 : decode b_F_refresh 4 = .ok (.ifCond .eq 41, 3) := by decide +kernel
theorem d_F_refresh_7 : decode b_F_refresh 7 = .ok (.aload_n 0, 1) := by decide +kernel
theorem d_F_refresh_8 : decode b_F_refresh 8 = .ok (.getfield 19, 3) := by decide +kernel
theorem d_F_refresh_11 : decode b_F_refresh 11 = .ok (.aload_n 0, 1) := by decide +kernel
theorem d_F_refresh_12 : decode b_F_refresh 12 = .ok (.getfield 12, 3) := by decide +kernel
theorem d_F_refresh_15 : decode b_F_refresh 15 = .ok (.invokevirtual 109, 3) := by decide +kernel
theorem d_F_refresh_18 : decode b_F_refresh 18 = .ok (.aload_n 0, 1) := by decide +kernel
theorem d_F_refresh_19 : decode b_F_refresh 19 = .ok (.getfield 26, 3) := by decide +kernel
theorem d_F_refresh_22 : decode b_F_refresh 22 = .ok (.aload_n 0, 1) := by decide +kernel
theorem d_F_refresh_23 : decode b_F_refresh 23 = .ok (.getfield 19, 3) := by decide +kernel
theorem d_F_refresh_26 : decode b_F_refresh 26 = .ok (.invokevirtual 113, 3) := by decide +kernel
theorem d_F_refresh_29 : decode b_F_refresh 29 = .ok (.aload_n 0, 1) := by decide +kernel
theorem d_F_refresh_30 : decode b_F_refresh 30 = .ok (.getfield 26, 3) := by decide +kernel
theorem d_F_refresh_33 : decode b_F_refresh 33 = .ok (.aload_n 0, 1) := by decide +kernel
theorem d_F_refresh_34 : decode b_F_refresh 34 = .ok (.getfield 12, 3) := by decide +kernel
theorem d_F_refresh_37 : decode b_F_refresh 37 = .ok (.invokevirtual 117, 3) := by decide +kernel
theorem d_F_refresh_40 : decode b_F_refresh 40 = .ok (.aload_n 0, 1) := by decide +kernel
theorem d_F_refresh_41 : decode b_F_refresh 41 = .ok (.iconst 0, 1) := by decide +kernel
theorem d_F_refresh_42 : decode b_F_refresh 42 = .ok (.putfield 30, 3) := by decide +kernel
theorem d_F_refresh_45 : decode b_F_refresh 45 = .ok (.return_, 1) := by decide +kernel
theorem d_F_covers_0 : decode b_F_covers 0 = .ok (.aload_n 0, 1) := by decide +kernel
theorem d_F_covers_1 : decode b_F_covers 1 = .ok (.getfield 26, 3) := by decide +kernel
theorem d_F_covers_4 : decode b_F_covers 4 = .ok (.iload_n 1, 1) := by decide +kernel
theorem d_F_covers_5 : decode b_F_covers 5 = .ok (.iconst 0, 1) := by decide +kernel
theorem d_F_covers_6 : decode b_F_covers 6 = .ok (.invokevirtual 74, 3) := by decide +kernel
theorem d_F_covers_9 : decode b_F_covers 9 = .ok (.istore 4, 2) := by decide +kernel
theorem d_F_covers_11 : decode b_F_covers 11 = .ok (.aload_n 0, 1) := by decide +kernel
theorem d_F_covers_12 : decode b_F_covers 12 = .ok (.getfield 26, 3) := by decide +kernel
theorem d_F_covers_15 : decode b_F_covers 15 = .ok (.iload_n 1, 1) := by decide +kernel
theorem d_F_covers_16 : decode b_F_covers 16 = .ok (.iconst 1, 1) := by decide +kernel
theorem d_F_covers_17 : decode b_F_covers 17 = .ok (.invokevirtual 74, 3) := by decide +kernel
theorem d_F_covers_20 : decode b_F_covers 20 = .ok (.istore 5, 2) := by decide +kernel
theorem d_F_covers_22 : decode b_F_covers 22 = .ok (.aload_n 0, 1) := by decide +kernel
theorem d_F_covers_23 : decode b_F_covers 23 = .ok (.getfield 26, 3) := by decide +kernel
theorem d_F_covers_26 : decode b_F_covers 26 = .ok (.iload_n 1, 1) := by decide +kernel
theorem d_F_covers_27 : decode b_F_covers 27 = .ok (.iconst 2, 1) := by decide +kernel
theorem d_F_covers_28 : decode b_F_covers 28 = .ok (.invokevirtual 74, 3) := by decide +kernel
theorem d_F_covers_31 : decode b_F_covers 31 = .ok (.istore 6, 2) := by decide +kernel
theorem d_F_covers_33 : decode b_F_covers 33 = .ok (.aload_n 0, 1) := by decide +kernel
theorem d_F_covers_34 : decode b_F_covers 34 = .ok (.getfield 12, 3) := by decide +kernel
theorem d_F_covers_37 : decode b_F_covers 37 = .ok (.iload 4, 2) := by decide +kernel
theorem d_F_covers_39 : decode b_F_covers 39 = .ok (.iload 5, 2) := by decide +kernel
theorem d_F_covers_41 : decode b_F_covers 41 = .ok (.iload_n 2, 1) := by decide +kernel
theorem d_F_covers_42 : decode b_F_covers 42 = .ok (.iload_n 3, 1) := by decide +kernel
theorem d_F_covers_43 : decode b_F_covers 43 = .ok (.invokevirtual 120, 3) := by decide +kernel
theorem d_F_covers_46 : decode b_F_covers 46 = .ok (.lconst 0, 1) := by decide +kernel
theorem d_F_covers_47 : decode b_F_covers 47 = .ok (.lcmp, 1) := by decide +kernel
theorem d_F_covers_48 : decode b_F_covers 48 = .ok (.ifCond .lt 43, 3) := by decide +kernel
theorem d_F_covers_51 : decode b_F_covers 51 = .ok (.aload_n 0, 1) := by decide +kernel
theorem d_F_covers_52 : decode b_F_covers 52 = .ok (.getfield 12, 3) := by decide +kernel
theorem d_F_covers_55 : decode b_F_covers 55 = .ok (.iload 5, 2) := by decide +kernel
theorem d_F_covers_57 : decode b_F_covers 57 = .ok (.iload 6, 2) := by decide +kernel
theorem d_F_covers_59 : decode b_F_covers 59 = .ok (.iload_n 2, 1) := by decide +kernel
theorem d_F_covers_60 : decode b_F_covers 60 = .ok (.iload_n 3, 1) := by decide +kernel
theorem d_F_covers_61 : decode b_F_covers 61 = .ok (.invokevirtual 120, 3) := by decide +kernel
theorem d_F_covers_64 : decode b_F_covers 64 = .ok (.lconst 0, 1) := by decide +kernel
theorem d_F_covers_65 : decode b_F_covers 65 = .ok (.lcmp, 1) := by decide +kernel
theorem d_F_covers_66 : decode b_F_covers 66 = .ok (.ifCond .lt 25, 3) := by decide +kernel
theorem d_F_covers_69 : decode b_F_covers 69 = .ok (.aload_n 0, 1) := by decide +kernel
theorem d_F_covers_70 : decode b_F_covers 70 = .ok (.getfield 12, 3) := by decide +kernel
theorem d_F_covers_73 : decode b_F_covers 73 = .ok (.iload 6, 2) := by decide +kernel
theorem d_F_covers_75 : decode b_F_covers 75 = .ok (.iload 4, 2) := by decide +kernel
theorem d_F_covers_77 : decode b_F_covers 77 = .ok (.iload_n 2, 1) := by decide +kernel
theorem d_F_covers_78 : decode b_F_covers 78 = .ok (.iload_n 3, 1) := by decide +kernel
theorem d_F_covers_79 : decode b_F_covers 79 = .ok (.invokevirtual 120, 3) := by decide +kernel
theorem d_F_covers_82 : decode b_F_covers 82 = .ok (.lconst 0, 1) := by decide +kernel
theorem d_F_covers_83 : decode b_F_covers 83 = .ok (.lcmp, 1) := by decide +kernel
theorem d_F_covers_84 : decode b_F_covers 84 = .ok (.ifCond .lt 7, 3) := by decide +kernel
theorem d_F_covers_87 : decode b_F_covers 87 = .ok (.iconst 1, 1) := by decide +kernel
theorem d_F_covers_88 : decode b_F_covers 88 = .ok (.goto 4, 3) := by decide +kernel
theorem d_F_covers_91 : decode b_F_covers 91 = .ok (.iconst 0, 1) := by decide +kernel
theorem d_F_covers_92 : decode b_F_covers 92 = .ok (.ireturn, 1) := by decide +kernel
theorem d_F_inReach_0 : decode b_F_inReach 0 = .ok (.iload_n 0, 1) := by decide +kernel
theorem d_F_inReach_1 : decode b_F_inReach 1 = .ok (.ldc 124, 2) := by decide +kernel
theorem d_F_inReach_3 : decode b_F_inReach 3 = .ok (.if_icmp .lt 25, 3) := by decide +kernel
theorem d_F_inReach_6 : decode b_F_inReach 6 = .ok (.iload_n 0, 1) := by decide +kernel
theorem d_F_inReach_7 : decode b_F_inReach 7 = .ok (.ldc 125, 2) := by decide +kernel
theorem d_F_inReach_9 : decode b_F_inReach 9 = .ok (.if_icmp .gt 19, 3) := by decide +kernel
theorem d_F_inReach_12 : decode b_F_inReach 12 = .ok (.iload_n 1, 1) := by decide +kernel
theorem d_F_inReach_13 : decode b_F_inReach 13 = .ok (.ldc 124, 2) := by decide +kernel
theorem d_F_inReach_15 : decode b_F_inReach 15 = .ok (.if_icmp .lt 13, 3) := by decide +kernel
theorem d_F_inReach_18 : decode b_F_inReach 18 = .ok (.iload_n 1, 1) := by decide +kernel
theorem d_F_inReach_19 : decode b_F_inReach 19 = .ok (.ldc 125, 2) := by decide +kernel
theorem d_F_inReach_21 : decode b_F_inReach 21 = .ok (.if_icmp .gt 7, 3) := by decide +kernel
theorem d_F_inReach_24 : decode b_F_inReach 24 = .ok (.iconst 1, 1) := by decide +kernel
theorem d_F_inReach_25 : decode b_F_inReach 25 = .ok (.goto 4, 3) := by decide +kernel
theorem d_F_inReach_28 : decode b_F_inReach 28 = .ok (.iconst 0, 1) := by decide +kernel
theorem d_F_inReach_29 : decode b_F_inReach 29 = .ok (.ireturn, 1) := by decide +kernel
theorem d_F_sign_0 : decode b_F_sign 0 = .ok (.lload_n 0, 1) := by decide +kernel
theorem d_F_sign_1 : decode b_F_sign 1 = .ok (.lconst 0, 1) := by decide +kernel
theorem d_F_sign_2 : decode b_F_sign 2 = .ok (.lcmp, 1) := by decide +kernel
theorem d_F_sign_3 : decode b_F_sign 3 = .ok (.ifCond .le 7, 3) := by decide +kernel
theorem d_F_sign_6 : decode b_F_sign 6 = .ok (.iconst 1, 1) := by decide +kernel
theorem d_F_sign_7 : decode b_F_sign 7 = .ok (.goto 14, 3) := by decide +kernel
theorem d_F_sign_10 : decode b_F_sign 10 = .ok (.lload_n 0, 1) := by decide +kernel
theorem d_F_sign_11 : decode b_F_sign 11 = .ok (.lconst 0, 1) := by decide +kernel
theorem d_F_sign_12 : decode b_F_sign 12 = .ok (.lcmp, 1) := by decide +kernel
theorem d_F_sign_13 : decode b_F_sign 13 = .ok (.ifCond .ge 7, 3) := by decide +kernel
theorem d_F_sign_16 : decode b_F_sign 16 = .ok (.iconst (-1), 1) := by decide +kernel
theorem d_F_sign_17 : decode b_F_sign 17 = .ok (.goto 4, 3) := by decide +kernel
theorem d_F_sign_20 : decode b_F_sign 20 = .ok (.iconst 0, 1) := by decide +kernel
theorem d_F_sign_21 : decode b_F_sign 21 = .ok (.ireturn, 1) := by decide +kernel
end
section
theorem d_O_init_0 : decode b_O_init 0 = .ok (.aload_n 0, 1) := by decide +kernel
theorem d_O_init_1 : decode b_O_init 1 = .ok (.invokespecial 3, 3) := by decide +kernel
theorem d_O_init_4 : decode b_O_init 4 = .ok (.aload_n 0, 1) := by decide +kernel
theorem d_O_init_5 : decode b_O_init 5 = .ok (.bipush 40, 2) := by decide +kernel
theorem d_O_init_7 : decode b_O_init 7 = .ok (.newarray .int, 2) := by decide +kernel
theorem d_O_init_9 : decode b_O_init 9 = .ok (.putfield 9, 3) := by decide +kernel
theorem d_O_init_12 : decode b_O_init 12 = .ok (.aload_n 0, 1) := by decide +kernel
theorem d_O_init_13 : decode b_O_init 13 = .ok (.iconst 0, 1) := by decide +kernel
theorem d_O_init_14 : decode b_O_init 14 = .ok (.putfield 15, 3) := by decide +kernel
theorem d_O_init_17 : decode b_O_init 17 = .ok (.aload_n 0, 1) := by decide +kernel
theorem d_O_init_18 : decode b_O_init 18 = .ok (.iconst 1, 1) := by decide +kernel
theorem d_O_init_19 : decode b_O_init 19 = .ok (.putfield 19, 3) := by decide +kernel
theorem d_O_init_22 : decode b_O_init 22 = .ok (.return_, 1) := by decide +kernel
theorem d_O_size_0 : decode b_O_size 0 = .ok (.aload_n 0, 1) := by decide +kernel
theorem d_O_size_1 : decode b_O_size 1 = .ok (.getfield 15, 3) := by decide +kernel
theorem d_O_size_4 : decode b_O_size 4 = .ok (.ireturn, 1) := by decide +kernel
theorem d_O_isFlat_0 : decode b_O_isFlat 0 = .ok (.aload_n 0, 1) := by decide +kernel
theorem d_O_isFlat_1 : decode b_O_isFlat 1 = .ok (.getfield 19, 3) := by decide +kernel
theorem d_O_isFlat_4 : decode b_O_isFlat 4 = .ok (.ireturn, 1) := by decide +kernel
theorem d_O_at_0 : decode b_O_at 0 = .ok (.aload_n 0, 1) := by decide +kernel
theorem d_O_at_1 : decode b_O_at 1 = .ok (.getfield 9, 3) := by decide +kernel
theorem d_O_at_4 : decode b_O_at 4 = .ok (.iload_n 1, 1) := by decide +kernel
theorem d_O_at_5 : decode b_O_at 5 = .ok (.iaload, 1) := by decide +kernel
theorem d_O_at_6 : decode b_O_at 6 = .ok (.ireturn, 1) := by decide +kernel
theorem d_O_trace_0 : decode b_O_trace 0 = .ok (.aload_n 0, 1) := by decide +kernel
theorem d_O_trace_1 : decode b_O_trace 1 = .ok (.iconst 0, 1) := by decide +kernel
theorem d_O_trace_2 : decode b_O_trace 2 = .ok (.putfield 15, 3) := by decide +kernel
theorem d_O_trace_5 : decode b_O_trace 5 = .ok (.aload_n 0, 1) := by decide +kernel
theorem d_O_trace_6 : decode b_O_trace 6 = .ok (.aload_n 1, 1) := by decide +kernel
theorem d_O_trace_7 : decode b_O_trace 7 = .ok (.invokestatic 23, 3) := by decide +kernel
theorem d_O_trace_10 : decode b_O_trace 10 = .ok (.putfield 19, 3) := by decide +kernel
theorem d_O_trace_13 : decode b_O_trace 13 = .ok (.aload_n 1, 1) := by decide +kernel
theorem d_O_trace_14 : decode b_O_trace 14 = .ok (.invokevirtual 27, 3) := by decide +kernel
theorem d_O_trace_17 : decode b_O_trace 17 = .ok (.iconst 1, 1) := by decide +kernel
theorem d_O_trace_18 : decode b_O_trace 18 = .ok (.isub, 1) := by decide +kernel
theorem d_O_trace_19 : decode b_O_trace 19 = .ok (.istore_n 2, 1) := by decide +kernel
theorem d_O_trace_20 : decode b_O_trace 20 = .ok (.iconst 0, 1) := by decide +kernel
theorem d_O_trace_21 : decode b_O_trace 21 = .ok (.istore_n 3, 1) := by decide +kernel
theorem d_O_trace_22 : decode b_O_trace 22 = .ok (.iload_n 3, 1) := by decide +kernel
theorem d_O_trace_23 : decode b_O_trace 23 = .ok (.iload_n 2, 1) := by decide +kernel
theorem d_O_trace_24 : decode b_O_trace 24 = .ok (.if_icmp .gt 19, 3) := by decide +kernel
theorem d_O_trace_27 : decode b_O_trace 27 = .ok (.aload_n 0, 1) := by decide +kernel
theorem d_O_trace_28 : decode b_O_trace 28 = .ok (.aload_n 1, 1) := by decide +kernel
theorem d_O_trace_29 : decode b_O_trace 29 = .ok (.aload_n 1, 1) := by decide +kernel
theorem d_O_trace_30 : decode b_O_trace 30 = .ok (.iload_n 3, 1) := by decide +kernel
theorem d_O_trace_31 : decode b_O_trace 31 = .ok (.invokevirtual 32, 3) := by decide +kernel
theorem d_O_trace_34 : decode b_O_trace 34 = .ok (.invokevirtual 36, 3) := by decide +kernel
theorem d_O_trace_37 : decode b_O_trace 37 = .ok (.iinc 3 1, 3) := by decide +kernel
theorem d_O_trace_40 : decode b_O_trace 40 = .ok (.goto (-18), 3) := by decide +kernel
theorem d_O_trace_43 : decode b_O_trace 43 = .ok (.aload_n 0, 1) := by decide +kernel
theorem d_O_trace_44 : decode b_O_trace 44 = .ok (.getfield 19, 3) := by decide +kernel
theorem d_O_trace_47 : decode b_O_trace 47 = .ok (.ifCond .eq 4, 3) := by decide +kernel
theorem d_O_trace_50 : decode b_O_trace 50 = .ok (.return_, 1) := by decide +kernel
theorem d_O_trace_51 : decode b_O_trace 51 = .ok (.iload_n 2, 1) := by decide +kernel
theorem d_O_trace_52 : decode b_O_trace 52 = .ok (.iconst 1, 1) := by decide +kernel
theorem d_O_trace_53 : decode b_O_trace 53 = .ok (.isub, 1) := by decide +kernel
theorem d_O_trace_54 : decode b_O_trace 54 = .ok (.istore_n 3, 1) := by decide +kernel
theorem d_O_trace_55 : decode b_O_trace 55 = .ok (.iload_n 3, 1) := by decide +kernel
theorem d_O_trace_56 : decode b_O_trace 56 = .ok (.ifCond .lt 19, 3) := by decide +kernel
theorem d_O_trace_59 : decode b_O_trace 59 = .ok (.aload_n 0, 1) := by decide +kernel
theorem d_O_trace_60 : decode b_O_trace 60 = .ok (.aload_n 1, 1) := by decide +kernel
theorem d_O_trace_61 : decode b_O_trace 61 = .ok (.aload_n 1, 1) := by decide +kernel
theorem d_O_trace_62 : decode b_O_trace 62 = .ok (.iload_n 3, 1) := by decide +kernel
theorem d_O_trace_63 : decode b_O_trace 63 = .ok (.invokevirtual 32, 3) := by decide +kernel
theorem d_O_trace_66 : decode b_O_trace 66 = .ok (.invokevirtual 36, 3) := by decide +kernel
theorem d_O_trace_69 : decode b_O_trace 69 = .ok (.iinc 3 (-1), 3) := by decide +kernel
theorem d_O_trace_72 : decode b_O_trace 72 = .ok (.goto (-17), 3) := by decide +kernel
theorem d_O_trace_75 : decode b_O_trace 75 = .ok (.aload_n 0, 1) := by decide +kernel
theorem d_O_trace_76 : decode b_O_trace 76 = .ok (.dup, 1) := by decide +kernel
theorem d_O_trace_77 : decode b_O_trace 77 = .ok (.getfield 15, 3) := by decide +kernel
theorem d_O_trace_80 : decode b_O_trace 80 = .ok (.iconst 1, 1) := by decide +kernel
theorem d_O_trace_81 : decode b_O_trace 81 = .ok (.isub, 1) := by decide +kernel
theorem d_O_trace_82 : decode b_O_trace 82 = .ok (.putfield 15, 3) := by decide +kernel
theorem d_O_trace_85 : decode b_O_trace 85 = .ok (.return_, 1) := by decide +kernel
theorem d_O_allOnOneLine_0 : decode b_O_allOnOneLine 0 = .ok (.iconst 2, 1) := by decide +kernel
theorem d_O_allOnOneLine_1 : decode b_O_allOnOneLine 1 = .ok (.istore_n 1, 1) := by decide +kernel
theorem d_O_allOnOneLine_2 : decode b_O_allOnOneLine 2 = .ok (.iload_n 1, 1) := by decide +kernel
theorem d_O_allOnOneLine_3 : decode b_O_allOnOneLine 3 = .ok (.aload_n 0, 1) := by decide +kernel
theorem d_O_allOnOneLine_4 : decode b_O_allOnOneLine 4 = .ok (.invokevirtual 27, 3) := by decide +kernel
theorem d_O_allOnOneLine_7 : decode b_O_allOnOneLine 7 = .ok (.if_icmp .ge 33, 3) := by decide +kernel
theorem d_O_allOnOneLine_10 : decode b_O_allOnOneLine 10 = .ok (.aload_n 0, 1) := by decide +kernel
theorem d_O_allOnOneLine_11 : decode b_O_allOnOneLine 11 = .ok (.aload_n 0, 1) := by decide +kernel
theorem d_O_allOnOneLine_12 : decode b_O_allOnOneLine 12 = .ok (.iconst 0, 1) := by decide +kernel
theorem d_O_allOnOneLine_13 : decode b_O_allOnOneLine 13 = .ok (.invokevirtual 32, 3) := by decide +kernel
theorem d_O_allOnOneLine_16 : decode b_O_allOnOneLine 16 = .ok (.aload_n 0, 1) := by decide +kernel
theorem d_O_allOnOneLine_17 : decode b_O_allOnOneLine 17 = .ok (.iconst 1, 1) := by decide +kernel
theorem d_O_allOnOneLine_18 : decode b_O_allOnOneLine 18 = .ok (.invokevirtual 32, 3) := by decide +kernel
theorem d_O_allOnOneLine_21 : decode b_O_allOnOneLine 21 = .ok (.aload_n 0, 1) := by decide +kernel
theorem d_O_allOnOneLine_22 : decode b_O_allOnOneLine 22 = .ok (.iload_n 1, 1) := by decide +kernel
theorem d_O_allOnOneLine_23 : decode b_O_allOnOneLine 23 = .ok (.invokevirtual 32, 3) := by decide +kernel
theorem d_O_allOnOneLine_26 : decode b_O_allOnOneLine 26 = .ok (.invokevirtual 40, 3) := by decide +kernel
theorem d_O_allOnOneLine_29 : decode b_O_allOnOneLine 29 = .ok (.ifCond .eq 5, 3) := by decide +kernel
theorem d_O_allOnOneLine_32 : decode b_O_allOnOneLine 32 = .ok (.iconst 0, 1) := by decide +kernel
theorem d_O_allOnOneLine_33 : decode b_O_allOnOneLine 33 = .ok (.ireturn, 1) := by decide +kernel
theorem d_O_allOnOneLine_34 : decode b_O_allOnOneLine 34 = .ok (.iinc 1 1, 3) := by decide +kernel
theorem d_O_allOnOneLine_37 : decode b_O_allOnOneLine 37 = .ok (.goto (-35), 3) := by decide +kernel
theorem d_O_allOnOneLine_40 : decode b_O_allOnOneLine 40 = .ok (.iconst 1, 1) := by decide +kernel
theorem d_O_allOnOneLine_41 : decode b_O_allOnOneLine 41 = .ok (.ireturn, 1) := by decide +kernel
theorem d_O_push_0 : decode b_O_push 0 = .ok (.aload_n 0, 1) := by decide +kernel
theorem d_O_push_1 : decode b_O_push 1 = .ok (.getfield 15, 3) := by decide +kernel
theorem d_O_push_4 : decode b_O_push 4 = .ok (.iconst 2, 1) := by decide +kernel
theorem d_O_push_5 : decode b_O_push 5 = .ok (.if_icmp .lt 46, 3) := by decide +kernel
theorem d_O_push_8 : decode b_O_push 8 = .ok (.aload_n 1, 1) := by decide +kernel
theorem d_O_push_9 : decode b_O_push 9 = .ok (.aload_n 0, 1) := by decide +kernel
theorem d_O_push_10 : decode b_O_push 10 = .ok (.getfield 9, 3) := by decide +kernel
theorem d_O_push_13 : decode b_O_push 13 = .ok (.aload_n 0, 1) := by decide +kernel
theorem d_O_push_14 : decode b_O_push 14 = .ok (.getfield 15, 3) := by decide +kernel
theorem d_O_push_17 : decode b_O_push 17 = .ok (.iconst 2, 1) := by decide +kernel
theorem d_O_push_18 : decode b_O_push 18 = .ok (.isub, 1) := by decide +kernel
theorem d_O_push_19 : decode b_O_push 19 = .ok (.iaload, 1) := by decide +kernel
theorem d_O_push_20 : decode b_O_push 20 = .ok (.aload_n 0, 1) := by decide +kernel
theorem d_O_push_21 : decode b_O_push 21 = .ok (.getfield 9, 3) := by decide +kernel
theorem d_O_push_24 : decode b_O_push 24 = .ok (.aload_n 0, 1) := by decide +kernel
theorem d_O_push_25 : decode b_O_push 25 = .ok (.getfield 15, 3) := by decide +kernel
theorem d_O_push_28 : decode b_O_push 28 = .ok (.iconst 1, 1) := by decide +kernel
theorem d_O_push_29 : decode b_O_push 29 = .ok (.isub, 1) := by decide +kernel
theorem d_O_push_30 : decode b_O_push 30 = .ok (.iaload, 1) := by decide +kernel
theorem d_O_push_31 : decode b_O_push 31 = .ok (.iload_n 2, 1) := by decide +kernel
theorem d_O_push_32 : decode b_O_push 32 = .ok (.invokevirtual 40, 3) := by decide +kernel
theorem d_O_push_35 : decode b_O_push 35 = .ok (.ifCond .ge 16, 3) := by decide +kernel
theorem d_O_push_38 : decode b_O_push 38 = .ok (.aload_n 0, 1) := by decide +kernel
theorem d_O_push_39 : decode b_O_push 39 = .ok (.dup, 1) := by decide +kernel
theorem d_O_push_40 : decode b_O_push 40 = .ok (.getfield 15, 3) := by decide +kernel
theorem d_O_push_43 : decode b_O_push 43 = .ok (.iconst 1, 1) := by decide +kernel
theorem d_O_push_44 : decode b_O_push 44 = .ok (.isub, 1) := by decide +kernel
theorem d_O_push_45 : decode b_O_push 45 = .ok (.putfield 15, 3) := by decide +kernel
theorem d_O_push_48 : decode b_O_push 48 = .ok (.goto (-48), 3) := by decide +kernel
theorem d_O_push_51 : decode b_O_push 51 = .ok (.aload_n 0, 1) := by decide +kernel
theorem d_O_push_52 : decode b_O_push 52 = .ok (.getfield 15, 3) := by decide +kernel
theorem d_O_push_55 : decode b_O_push 55 = .ok (.aload_n 0, 1) := by decide +kernel
theorem d_O_push_56 : decode b_O_push 56 = .ok (.getfield 9, 3) := by decide +kernel
theorem d_O_push_59 : decode b_O_push 59 = .ok (.arraylength, 1) := by decide +kernel
theorem d_O_push_60 : decode b_O_push 60 = .ok (.if_icmp .ge 23, 3) := by decide +kernel
theorem d_O_push_63 : decode b_O_push 63 = .ok (.aload_n 0, 1) := by decide +kernel
theorem d_O_push_64 : decode b_O_push 64 = .ok (.getfield 9, 3) := by decide +kernel
theorem d_O_push_67 : decode b_O_push 67 = .ok (.aload_n 0, 1) := by decide +kernel
theorem d_O_push_68 : decode b_O_push 68 = .ok (.getfield 15, 3) := by decide +kernel
theorem d_O_push_71 : decode b_O_push 71 = .ok (.iload_n 2, 1) := by decide +kernel
theorem d_O_push_72 : decode b_O_push 72 = .ok (.iastore, 1) := by decide +kernel
theorem d_O_push_73 : decode b_O_push 73 = .ok (.aload_n 0, 1) := by decide +kernel
theorem d_O_push_74 : decode b_O_push 74 = .ok (.dup, 1) := by decide +kernel
theorem d_O_push_75 : decode b_O_push 75 = .ok (.getfield 15, 3) := by decide +kernel
theorem d_O_push_78 : decode b_O_push 78 = .ok (.iconst 1, 1) := by decide +kernel
theorem d_O_push_79 : decode b_O_push 79 = .ok (.iadd, 1) := by decide +kernel
theorem d_O_push_80 : decode b_O_push 80 = .ok (.putfield 15, 3) := by decide +kernel
theorem d_O_push_83 : decode b_O_push 83 = .ok (.return_, 1) := by decide +kernel
theorem d_J_fill_0 : decode b_J_fill 0 = .ok (.iconst 0, 1) := by decide +kernel
theorem d_J_fill_1 : decode b_J_fill 1 = .ok (.istore_n 2, 1) := by decide +kernel
theorem d_J_fill_2 : decode b_J_fill 2 = .ok (.aload_n 0, 1) := by decide +kernel
theorem d_J_fill_3 : decode b_J_fill 3 = .ok (.arraylength, 1) := by decide +kernel
theorem d_J_fill_4 : decode b_J_fill 4 = .ok (.istore_n 3, 1) := by decide +kernel
theorem d_J_fill_5 : decode b_J_fill 5 = .ok (.iload_n 2, 1) := by decide +kernel
theorem d_J_fill_6 : decode b_J_fill 6 = .ok (.iload_n 3, 1) := by decide +kernel
theorem d_J_fill_7 : decode b_J_fill 7 = .ok (.if_icmp .ge 13, 3) := by decide +kernel
theorem d_J_fill_10 : decode b_J_fill 10 = .ok (.aload_n 0, 1) := by decide +kernel
theorem d_J_fill_11 : decode b_J_fill 11 = .ok (.iload_n 2, 1) := by decide +kernel
theorem d_J_fill_12 : decode b_J_fill 12 = .ok (.iload_n 1, 1) := by decide +kernel
theorem d_J_fill_13 : decode b_J_fill 13 = .ok (.iastore, 1) := by decide +kernel
theorem d_J_fill_14 : decode b_J_fill 14 = .ok (.iinc 2 1, 3) := by decide +kernel
theorem d_J_fill_17 : decode b_J_fill 17 = .ok (.goto (-12), 3) := by decide +kernel
theorem d_J_fill_20 : decode b_J_fill 20 = .ok (.return_, 1) := by decide +kernel
end
section
/-! What each method means, as a function; written by program (wip/gen) out of the bytecode. -/
def f_F_inReach (x0 : Int32) (x1 : Int32) : Option (Int32) := (if x0 < (-1000000 : Int32) then (some (0 : Int32)) else (if (1000000 : Int32) < x0 then (some (0 : Int32)) else (if x1 < (-1000000 : Int32) then (some (0 : Int32)) else (if (1000000 : Int32) < x1 then (some (0 : Int32)) else (some (1 : Int32))))))
def f_P_slotAt_L2  (s_xs : Nat → Int32) (s_ys : Nat → Int32) (s_tk : Nat → Int32) : Nat → Int32 → Int32 → Int32 → Option (Int32)
  | 0, _, _, _ => none
  | n + 1, x1, x2, x3 => (if (20 : Int32) ≤ x3 then (some (-1 : Int32)) else (if ix x3 20 then (if (s_tk x3.toNatClampNeg) = 0 then (f_P_slotAt_L2 s_xs s_ys s_tk n x1 x2 (x3 + 1)) else (if ix x3 20 then (if (s_xs x3.toNatClampNeg) = x1 then (if ix x3 20 then (if (s_ys x3.toNatClampNeg) = x2 then (some x3) else (f_P_slotAt_L2 s_xs s_ys s_tk n x1 x2 (x3 + 1))) else none) else (f_P_slotAt_L2 s_xs s_ys s_tk n x1 x2 (x3 + 1))) else none)) else none))
def f_P_slotAt (s_xs : Nat → Int32) (s_ys : Nat → Int32) (s_tk : Nat → Int32) (x1 : Int32) (x2 : Int32) : Option (Int32) := (f_P_slotAt_L2 s_xs s_ys s_tk 600 x1 x2 (0 : Int32))
def f_P_freeSlot_L2  (s_tk : Nat → Int32) : Nat → Int32 → Option (Int32)
  | 0, _ => none
  | n + 1, x1 => (if (20 : Int32) ≤ x1 then (some (-1 : Int32)) else (if ix x1 20 then (if (s_tk x1.toNatClampNeg) = 0 then (some x1) else (f_P_freeSlot_L2 s_tk n (x1 + 1))) else none))
def f_P_freeSlot (s_tk : Nat → Int32) : Option (Int32) := (f_P_freeSlot_L2 s_tk 600 (0 : Int32))
def f_P_isEarlier (s_xs : Nat → Int32) (s_ys : Nat → Int32) (x1 : Int32) (x2 : Int32) : Option (Int32) := (if ix x1 20 then (if ix x2 20 then (if (s_xs x1.toNatClampNeg) < (s_xs x2.toNatClampNeg) then (some (1 : Int32)) else (if ix x1 20 then (if ix x2 20 then (if (s_xs x1.toNatClampNeg) = (s_xs x2.toNatClampNeg) then (if ix x1 20 then (if ix x2 20 then (if (s_ys x2.toNatClampNeg) ≤ (s_ys x1.toNatClampNeg) then (some (0 : Int32)) else (some (1 : Int32))) else none) else none) else (some (0 : Int32))) else none) else none)) else none) else none)
def f_P_put_b71   (s_xs : Nat → Int32) (s_ys : Nat → Int32) (s_tk : Nat → Int32) (s_or : Nat → Int32) (s_pn : Int32) (x1 : Int32) (x4 : Int32) : Option ((Nat → Int32) × (Nat → Int32) × (Nat → Int32) × (Nat → Int32) × Int32) := (if ix x4 20 then (some (s_xs, s_ys, s_tk, (upd s_or x4.toNatClampNeg x1), (s_pn + (1 : Int32)))) else none)
def f_P_put_L27   : Nat → (Nat → Int32) → (Nat → Int32) → (Nat → Int32) → (Nat → Int32) → Int32 → Int32 → Int32 → Option ((Nat → Int32) × (Nat → Int32) × (Nat → Int32) × (Nat → Int32) × Int32)
  | 0, _, _, _, _, _, _, _ => none
  | n + 1, s_xs, s_ys, s_tk, s_or, s_pn, x1, x4 => (if x4 ≤ 0 then (f_P_put_b71 s_xs s_ys s_tk s_or s_pn x1 x4) else (if ix (x4 - (1 : Int32)) 20 then ((f_P_isEarlier s_xs s_ys x1 (s_or (x4 - (1 : Int32)).toNatClampNeg)).bind fun r4 => (if r4 = 0 then (f_P_put_b71 s_xs s_ys s_tk s_or s_pn x1 x4) else (if ix (x4 - (1 : Int32)) 20 then (if ix x4 20 then (f_P_put_L27  n s_xs s_ys s_tk (upd s_or x4.toNatClampNeg (s_or (x4 - (1 : Int32)).toNatClampNeg)) s_pn x1 (x4 + (-1))) else none) else none))) else none))
def f_P_put (s_xs : Nat → Int32) (s_ys : Nat → Int32) (s_tk : Nat → Int32) (s_or : Nat → Int32) (s_pn : Int32) (x1 : Int32) (x2 : Int32) (x3 : Int32) : Option ((Nat → Int32) × (Nat → Int32) × (Nat → Int32) × (Nat → Int32) × Int32) := (if ix x1 20 then (if ix x1 20 then (if ix x1 20 then (f_P_put_L27 600 (upd s_xs x1.toNatClampNeg x2) (upd s_ys x1.toNatClampNeg x3) (upd s_tk x1.toNatClampNeg (1 : Int32)) s_or s_pn x1 s_pn) else none) else none) else none)
def f_F_insert (s_st : Int32) (s_xs : Nat → Int32) (s_ys : Nat → Int32) (s_tk : Nat → Int32) (s_or : Nat → Int32) (s_pn : Int32) (x1 : Int32) (x2 : Int32) : Option (Int32 × Int32 × (Nat → Int32) × (Nat → Int32) × (Nat → Int32) × (Nat → Int32) × Int32) := ((f_F_inReach x1 x2).bind fun r1 => (if r1 = 0 then (some ((-2 : Int32), s_st, s_xs, s_ys, s_tk, s_or, s_pn)) else ((f_P_slotAt s_xs s_ys s_tk x1 x2).bind fun r5 => (if r5 = (-1 : Int32) then ((f_P_freeSlot s_tk).bind fun r9 => (if r9 = (-1 : Int32) then (some ((-4 : Int32), s_st, s_xs, s_ys, s_tk, s_or, s_pn)) else ((f_P_put s_xs s_ys s_tk s_or s_pn r9 x1 x2).bind fun v18 => (some (r9, (1 : Int32), v18.1, v18.2.1, v18.2.2.1, v18.2.2.2.1, v18.2.2.2.2))))) else (some ((-3 : Int32), s_st, s_xs, s_ys, s_tk, s_or, s_pn))))))
def f_P_has (s_tk : Nat → Int32) (x1 : Int32) : Option (Int32) := (if x1 < 0 then (some (0 : Int32)) else (if (20 : Int32) ≤ x1 then (some (0 : Int32)) else (if ix x1 20 then (if (s_tk x1.toNatClampNeg) = 0 then (some (0 : Int32)) else (some (1 : Int32))) else none)))
def f_P_drop_L11   : Nat → (Nat → Int32) → (Nat → Int32) → Int32 → Int32 → Int32 → Int32 → Option ((Nat → Int32) × (Nat → Int32) × Int32)
  | 0, _, _, _, _, _, _ => none
  | n + 1, s_tk, s_or, s_pn, x1, x2, x3 => (if s_pn ≤ x3 then (some (s_tk, s_or, x2)) else (if ix x3 20 then (if (s_or x3.toNatClampNeg) = x1 then (f_P_drop_L11  n s_tk s_or s_pn x1 x2 (x3 + 1)) else (if ix x3 20 then (if ix x2 20 then (f_P_drop_L11  n s_tk (upd s_or x2.toNatClampNeg (s_or x3.toNatClampNeg)) s_pn x1 (x2 + 1) (x3 + 1)) else none) else none)) else none))
def f_P_drop (s_tk : Nat → Int32) (s_or : Nat → Int32) (s_pn : Int32) (x1 : Int32) : Option ((Nat → Int32) × (Nat → Int32) × Int32) := (if ix x1 20 then (f_P_drop_L11 600 (upd s_tk x1.toNatClampNeg (0 : Int32)) s_or s_pn x1 (0 : Int32) (0 : Int32)) else none)
def f_F_remove (s_st : Int32) (s_tk : Nat → Int32) (s_or : Nat → Int32) (s_pn : Int32) (x1 : Int32) : Option (Int32 × Int32 × (Nat → Int32) × (Nat → Int32) × Int32) := ((f_P_has s_tk x1).bind fun r1 => (if r1 = 0 then (some ((0 : Int32), s_st, s_tk, s_or, s_pn)) else ((f_P_drop s_tk s_or s_pn x1).bind fun v8 => (some ((1 : Int32), (1 : Int32), v8.1, v8.2.1, v8.2.2)))))
def f_F_move (s_st : Int32) (s_xs : Nat → Int32) (s_ys : Nat → Int32) (s_tk : Nat → Int32) (s_or : Nat → Int32) (s_pn : Int32) (x1 : Int32) (x2 : Int32) (x3 : Int32) : Option (Int32 × Int32 × (Nat → Int32) × (Nat → Int32) × (Nat → Int32) × (Nat → Int32) × Int32) := ((f_P_has s_tk x1).bind fun r1 => (if r1 = 0 then (some ((-1 : Int32), s_st, s_xs, s_ys, s_tk, s_or, s_pn)) else ((f_F_inReach x2 x3).bind fun r5 => (if r5 = 0 then (some ((-2 : Int32), s_st, s_xs, s_ys, s_tk, s_or, s_pn)) else ((f_P_slotAt s_xs s_ys s_tk x2 x3).bind fun r9 => (if r9 = x1 then (some (x1, s_st, s_xs, s_ys, s_tk, s_or, s_pn)) else (if r9 = (-1 : Int32) then ((f_P_drop s_tk s_or s_pn x1).bind fun v17 => ((f_P_put s_xs s_ys v17.1 v17.2.1 v17.2.2 x1 x2 x3).bind fun v24 => (some (x1, (1 : Int32), v24.1, v24.2.1, v24.2.2.1, v24.2.2.2.1, v24.2.2.2.2)))) else (some ((-3 : Int32), s_st, s_xs, s_ys, s_tk, s_or, s_pn)))))))))
def f_P_size (s_pn : Int32) : Option (Int32) := (some s_pn)
def f_F_sites (s_pn : Int32) : Option (Int32) := ((f_P_size s_pn).bind fun r1 => (some r1))
def f_P_x (s_xs : Nat → Int32) (x1 : Int32) : Option (Int32) := (if ix x1 20 then (some (s_xs x1.toNatClampNeg)) else none)
def f_P_y (s_ys : Nat → Int32) (x1 : Int32) : Option (Int32) := (if ix x1 20 then (some (s_ys x1.toNatClampNeg)) else none)
def f_F_coordinate (s_xs : Nat → Int32) (s_ys : Nat → Int32) (s_tk : Nat → Int32) (x1 : Int32) (x2 : Int32) : Option (Int32) := ((f_P_has s_tk x1).bind fun r1 => (if r1 = 0 then (some (2000000 : Int32)) else (if x2 < 0 then (some (2000000 : Int32)) else (if x2 ≤ (1 : Int32) then (if x2 = 0 then ((f_P_x s_xs x1).bind fun r11 => (some r11)) else ((f_P_y s_ys x1).bind fun r8 => (some r8))) else (some (2000000 : Int32))))))
def f_P_inOrder (s_or : Nat → Int32) (x1 : Int32) : Option (Int32) := (if ix x1 20 then (some (s_or x1.toNatClampNeg)) else none)
def f_P_crossTo (s_xs : Nat → Int32) (s_ys : Nat → Int32) (x1 : Int32) (x2 : Int32) (x3 : Int32) (x4 : Int32) : Option (Int64) := (if ix x2 20 then (if ix x1 20 then (if ix x2 20 then (if ix x1 20 then (if ix x1 20 then (if ix x1 20 then (some ((((s_xs x2.toNatClampNeg) - (s_xs x1.toNatClampNeg)).toInt64 * (x4 - (s_ys x1.toNatClampNeg)).toInt64) - (((s_ys x2.toNatClampNeg) - (s_ys x1.toNatClampNeg)).toInt64 * (x3 - (s_xs x1.toNatClampNeg)).toInt64))) else none) else none) else none) else none) else none) else none)
def f_F_sign (x0 : Int64) : Option (Int32) := (if (lg_cmp x0 (0 : Int64)) ≤ 0 then (if 0 ≤ (lg_cmp x0 (0 : Int64)) then (some (0 : Int32)) else (some (-1 : Int32))) else (some (1 : Int32)))
def f_P_side (s_xs : Nat → Int32) (s_ys : Nat → Int32) (x1 : Int32) (x2 : Int32) (x3 : Int32) : Option (Int32) := (if ix x3 20 then (if ix x3 20 then ((f_P_crossTo s_xs s_ys x1 x2 (s_xs x3.toNatClampNeg) (s_ys x3.toNatClampNeg)).bind fun r3 => ((f_F_sign r3).bind fun r6 => (some r6))) else none) else none)
def f_O_allOnOneLine_L2  (s_xs : Nat → Int32) (s_ys : Nat → Int32) (s_or : Nat → Int32) (s_pn : Int32) : Nat → Int32 → Option (Int32)
  | 0, _ => none
  | n + 1, x1 => ((f_P_size s_pn).bind fun r1 => (if r1 ≤ x1 then (some (1 : Int32)) else ((f_P_inOrder s_or (0 : Int32)).bind fun r5 => ((f_P_inOrder s_or (1 : Int32)).bind fun r8 => ((f_P_inOrder s_or x1).bind fun r11 => ((f_P_side s_xs s_ys r5 r8 r11).bind fun r14 => (if r14 = 0 then (f_O_allOnOneLine_L2 s_xs s_ys s_or s_pn n (x1 + 1)) else (some (0 : Int32)))))))))
def f_O_allOnOneLine (s_xs : Nat → Int32) (s_ys : Nat → Int32) (s_or : Nat → Int32) (s_pn : Int32) : Option (Int32) := (f_O_allOnOneLine_L2 s_xs s_ys s_or s_pn 600 (2 : Int32))
def f_O_push_b51  (s_xs : Nat → Int32) (s_ys : Nat → Int32) (s_row : Nat → Int32) (s_on : Int32) (x2 : Int32) : Option ((Nat → Int32) × Int32) := (if (40 : Int32) ≤ s_on then (some (s_row, s_on)) else (if ix s_on 40 then (some ((upd s_row s_on.toNatClampNeg x2), (s_on + (1 : Int32)))) else none))
def f_O_push_L0  (s_xs : Nat → Int32) (s_ys : Nat → Int32) : Nat → (Nat → Int32) → Int32 → Int32 → Option ((Nat → Int32) × Int32)
  | 0, _, _, _ => none
  | n + 1, s_row, s_on, x2 => (if s_on < (2 : Int32) then (f_O_push_b51 s_xs s_ys s_row s_on x2) else (if ix (s_on - (2 : Int32)) 40 then (if ix (s_on - (1 : Int32)) 40 then ((f_P_side s_xs s_ys (s_row (s_on - (2 : Int32)).toNatClampNeg) (s_row (s_on - (1 : Int32)).toNatClampNeg) x2).bind fun r6 => (if 0 ≤ r6 then (f_O_push_b51 s_xs s_ys s_row s_on x2) else (f_O_push_L0 s_xs s_ys n s_row (s_on - (1 : Int32)) x2))) else none) else none))
def f_O_push (s_xs : Nat → Int32) (s_ys : Nat → Int32) (s_row : Nat → Int32) (s_on : Int32) (x2 : Int32) : Option ((Nat → Int32) × Int32) := (f_O_push_L0 s_xs s_ys 600 s_row s_on x2)
def f_O_trace_L55  (s_xs : Nat → Int32) (s_ys : Nat → Int32) (s_or : Nat → Int32) (s_pn : Int32) : Nat → (Nat → Int32) → Int32 → Int32 → Int32 → Option ((Nat → Int32) × Int32 × Int32)
  | 0, _, _, _, _ => none
  | n + 1, s_row, s_on, s_fl, x3 => (if x3 < 0 then (some (s_row, (s_on - (1 : Int32)), s_fl)) else ((f_P_inOrder s_or x3).bind fun r2 => ((f_O_push s_xs s_ys s_row s_on r2).bind fun v7 => (f_O_trace_L55 s_xs s_ys s_or s_pn n v7.1 v7.2 s_fl (x3 + (-1))))))
def f_O_trace_L22  (s_xs : Nat → Int32) (s_ys : Nat → Int32) (s_or : Nat → Int32) (s_pn : Int32) : Nat → (Nat → Int32) → Int32 → Int32 → Int32 → Int32 → Option ((Nat → Int32) × Int32 × Int32)
  | 0, _, _, _, _, _ => none
  | n + 1, s_row, s_on, s_fl, x2, x3 => (if x2 < x3 then (if s_fl = 0 then (f_O_trace_L55 s_xs s_ys s_or s_pn 600 s_row s_on s_fl (x2 - (1 : Int32))) else (some (s_row, s_on, s_fl))) else ((f_P_inOrder s_or x3).bind fun r11 => ((f_O_push s_xs s_ys s_row s_on r11).bind fun v16 => (f_O_trace_L22 s_xs s_ys s_or s_pn n v16.1 v16.2 s_fl x2 (x3 + 1)))))
def f_O_trace (s_xs : Nat → Int32) (s_ys : Nat → Int32) (s_or : Nat → Int32) (s_pn : Int32) (s_row : Nat → Int32) (s_on : Int32) (s_fl : Int32) : Option ((Nat → Int32) × Int32 × Int32) := ((f_O_allOnOneLine s_xs s_ys s_or s_pn).bind fun r18 => (if z01 r18 then ((f_P_size s_pn).bind fun r22 => (f_O_trace_L22 s_xs s_ys s_or s_pn 600 s_row (0 : Int32) r18 (r22 - (1 : Int32)) (0 : Int32))) else none))
def f_J_fill_L5   : Nat → (Nat → Int32) → Int32 → Int32 → Int32 → Option ((Nat → Int32))
  | 0, _, _, _, _ => none
  | n + 1, s_li, x1, x2, x3 => (if x3 ≤ x2 then (some s_li) else (if ix x2 20 then (f_J_fill_L5  n (upd s_li x2.toNatClampNeg x1) x1 (x2 + 1) x3) else none))
def f_J_fill (s_li : Nat → Int32) (x1 : Int32) : Option ((Nat → Int32)) := (f_J_fill_L5 600 s_li x1 (0 : Int32) (20 : Int32))
def f_O_isFlat (s_fl : Int32) : Option (Int32) := (if z01 s_fl then some s_fl else none)
def f_O_size (s_on : Int32) : Option (Int32) := (some s_on)
def f_O_at (s_row : Nat → Int32) (x1 : Int32) : Option (Int32) := (if ix x1 40 then (some (s_row x1.toNatClampNeg)) else none)
def f_M_link (s_li : Nat → Int32) (x1 : Int32) (x2 : Int32) : Option ((Nat → Int32)) := (if ix x1 20 then (if ix x1 20 then (some (upd s_li x1.toNatClampNeg ((s_li x1.toNatClampNeg) ||| ((1 : Int32) <<< (x2 &&& 31))))) else none) else none)
def f_M_linkLine_L2  (s_row : Nat → Int32) (s_on : Int32) : Nat → (Nat → Int32) → Int32 → Option ((Nat → Int32))
  | 0, _, _ => none
  | n + 1, s_li, x2 => ((f_O_size s_on).bind fun r1 => (if r1 ≤ x2 then (some s_li) else ((f_O_at s_row (x2 - (1 : Int32))).bind fun r5 => ((f_O_at s_row x2).bind fun r8 => ((f_M_link s_li r5 r8).bind fun r11 => ((f_O_at s_row x2).bind fun r14 => ((f_O_at s_row (x2 - (1 : Int32))).bind fun r17 => ((f_M_link r11 r14 r17).bind fun r20 => (f_M_linkLine_L2 s_row s_on n r20 (x2 + 1))))))))))
def f_M_linkLine (s_row : Nat → Int32) (s_on : Int32) (s_li : Nat → Int32) : Option ((Nat → Int32)) := (f_M_linkLine_L2 s_row s_on 600 s_li (1 : Int32))
def f_M_await (s_wa : Nat → Int32) (s_wn : Int32) (x1 : Int32) (x2 : Int32) : Option ((Nat → Int32) × Int32) := (if (54 : Int32) ≤ s_wn then (some (s_wa, s_wn)) else (if ix s_wn 54 then (some ((upd s_wa s_wn.toNatClampNeg ((x1 <<< ((5 : Int32) &&& 31)) ||| x2)), (s_wn + (1 : Int32)))) else none))
def f_M_awaitOutline_L13  (s_row : Nat → Int32) (s_on : Int32) : Nat → (Nat → Int32) → (Nat → Int32) → Int32 → Int32 → Int32 → Option ((Nat → Int32) × (Nat → Int32) × Int32)
  | 0, _, _, _, _, _ => none
  | n + 1, s_li, s_wa, s_wn, x2, x3 => ((f_O_size s_on).bind fun r1 => (if r1 ≤ x3 then (some (s_li, s_wa, s_wn)) else ((f_O_at s_row x3).bind fun r5 => ((f_M_link s_li r5 x2).bind fun r8 => ((f_M_await s_wa s_wn x2 r5).bind fun v13 => (f_M_awaitOutline_L13 s_row s_on n r8 v13.1 v13.2 r5 (x3 + 1)))))))
def f_M_awaitOutline (s_row : Nat → Int32) (s_on : Int32) (s_li : Nat → Int32) (s_wa : Nat → Int32) (s_wn : Int32) : Option ((Nat → Int32) × (Nat → Int32) × Int32) := ((f_O_size s_on).bind fun r15 => ((f_O_at s_row (r15 - (1 : Int32))).bind fun r18 => (f_M_awaitOutline_L13 s_row s_on 600 s_li s_wa s_wn r18 (0 : Int32))))
def f_M_begin (s_row : Nat → Int32) (s_on : Int32) (s_fl : Int32) (s_mn : Int32) (s_li : Nat → Int32) (s_wa : Nat → Int32) (s_wn : Int32) : Option (Int32 × (Nat → Int32) × (Nat → Int32) × Int32) := ((f_J_fill s_li (0 : Int32)).bind fun r1 => ((f_O_isFlat s_fl).bind fun r4 => (if r4 = 0 then ((f_M_awaitOutline s_row s_on r1 s_wa (0 : Int32)).bind fun v11 => (some ((0 : Int32), v11.1, v11.2.1, v11.2.2))) else ((f_M_linkLine s_row s_on r1).bind fun r13 => (some ((0 : Int32), r13, s_wa, (0 : Int32)))))))
def f_M_isLinked (s_li : Nat → Int32) (x1 : Int32) (x2 : Int32) : Option (Int32) := (if ix x1 20 then (if (((s_li x1.toNatClampNeg) >>> (x2 &&& 31)) &&& (1 : Int32)) = 0 then (some (0 : Int32)) else (some (1 : Int32))) else none)
def f_P_signOfProducts (x0 : Int64) (x2 : Int64) (x4 : Int64) (x6 : Int64) (x8 : Int64) (x10 : Int64) : Option (Int32) := (if (lg_cmp ((((((x0 >>> ((15 : Int32).toInt64 &&& 63)) >>> ((15 : Int32).toInt64 &&& 63)) * x2) + (((x4 >>> ((15 : Int32).toInt64 &&& 63)) >>> ((15 : Int32).toInt64 &&& 63)) * x6)) + (((x8 >>> ((15 : Int32).toInt64 &&& 63)) >>> ((15 : Int32).toInt64 &&& 63)) * x10)) + (((((((x0 >>> ((15 : Int32).toInt64 &&& 63)) &&& (32767 : Int64)) * x2) + (((x4 >>> ((15 : Int32).toInt64 &&& 63)) &&& (32767 : Int64)) * x6)) + (((x8 >>> ((15 : Int32).toInt64 &&& 63)) &&& (32767 : Int64)) * x10)) + (((((x0 &&& (32767 : Int64)) * x2) + ((x4 &&& (32767 : Int64)) * x6)) + ((x8 &&& (32767 : Int64)) * x10)) >>> ((15 : Int32).toInt64 &&& 63))) >>> ((15 : Int32).toInt64 &&& 63))) (0 : Int64)) = 0 then ((f_F_sign ((((((((x0 >>> ((15 : Int32).toInt64 &&& 63)) &&& (32767 : Int64)) * x2) + (((x4 >>> ((15 : Int32).toInt64 &&& 63)) &&& (32767 : Int64)) * x6)) + (((x8 >>> ((15 : Int32).toInt64 &&& 63)) &&& (32767 : Int64)) * x10)) + (((((x0 &&& (32767 : Int64)) * x2) + ((x4 &&& (32767 : Int64)) * x6)) + ((x8 &&& (32767 : Int64)) * x10)) >>> ((15 : Int32).toInt64 &&& 63))) ||| ((((x0 &&& (32767 : Int64)) * x2) + ((x4 &&& (32767 : Int64)) * x6)) + ((x8 &&& (32767 : Int64)) * x10))) &&& (32767 : Int64))).bind fun r2 => (some r2)) else ((f_F_sign ((((((x0 >>> ((15 : Int32).toInt64 &&& 63)) >>> ((15 : Int32).toInt64 &&& 63)) * x2) + (((x4 >>> ((15 : Int32).toInt64 &&& 63)) >>> ((15 : Int32).toInt64 &&& 63)) * x6)) + (((x8 >>> ((15 : Int32).toInt64 &&& 63)) >>> ((15 : Int32).toInt64 &&& 63)) * x10)) + (((((((x0 >>> ((15 : Int32).toInt64 &&& 63)) &&& (32767 : Int64)) * x2) + (((x4 >>> ((15 : Int32).toInt64 &&& 63)) &&& (32767 : Int64)) * x6)) + (((x8 >>> ((15 : Int32).toInt64 &&& 63)) &&& (32767 : Int64)) * x10)) + (((((x0 &&& (32767 : Int64)) * x2) + ((x4 &&& (32767 : Int64)) * x6)) + ((x8 &&& (32767 : Int64)) * x10)) >>> ((15 : Int32).toInt64 &&& 63))) >>> ((15 : Int32).toInt64 &&& 63)))).bind fun r5 => (some r5)))
def f_P_circleSide (s_xs : Nat → Int32) (s_ys : Nat → Int32) (x1 : Int32) (x2 : Int32) (x3 : Int32) (x4 : Int32) : Option (Int32) := (if ix x1 20 then (if ix x4 20 then (if ix x1 20 then (if ix x4 20 then (if ix x2 20 then (if ix x4 20 then (if ix x2 20 then (if ix x4 20 then (if ix x3 20 then (if ix x4 20 then (if ix x3 20 then (if ix x4 20 then ((f_P_signOfProducts ((((s_xs x1.toNatClampNeg) - (s_xs x4.toNatClampNeg)).toInt64 * ((s_xs x1.toNatClampNeg) - (s_xs x4.toNatClampNeg)).toInt64) + (((s_ys x1.toNatClampNeg) - (s_ys x4.toNatClampNeg)).toInt64 * ((s_ys x1.toNatClampNeg) - (s_ys x4.toNatClampNeg)).toInt64)) ((((s_xs x2.toNatClampNeg) - (s_xs x4.toNatClampNeg)).toInt64 * ((s_ys x3.toNatClampNeg) - (s_ys x4.toNatClampNeg)).toInt64) - (((s_ys x2.toNatClampNeg) - (s_ys x4.toNatClampNeg)).toInt64 * ((s_xs x3.toNatClampNeg) - (s_xs x4.toNatClampNeg)).toInt64)) ((((s_xs x2.toNatClampNeg) - (s_xs x4.toNatClampNeg)).toInt64 * ((s_xs x2.toNatClampNeg) - (s_xs x4.toNatClampNeg)).toInt64) + (((s_ys x2.toNatClampNeg) - (s_ys x4.toNatClampNeg)).toInt64 * ((s_ys x2.toNatClampNeg) - (s_ys x4.toNatClampNeg)).toInt64)) ((((s_xs x3.toNatClampNeg) - (s_xs x4.toNatClampNeg)).toInt64 * ((s_ys x1.toNatClampNeg) - (s_ys x4.toNatClampNeg)).toInt64) - (((s_ys x3.toNatClampNeg) - (s_ys x4.toNatClampNeg)).toInt64 * ((s_xs x1.toNatClampNeg) - (s_xs x4.toNatClampNeg)).toInt64)) ((((s_xs x3.toNatClampNeg) - (s_xs x4.toNatClampNeg)).toInt64 * ((s_xs x3.toNatClampNeg) - (s_xs x4.toNatClampNeg)).toInt64) + (((s_ys x3.toNatClampNeg) - (s_ys x4.toNatClampNeg)).toInt64 * ((s_ys x3.toNatClampNeg) - (s_ys x4.toNatClampNeg)).toInt64)) ((((s_xs x1.toNatClampNeg) - (s_xs x4.toNatClampNeg)).toInt64 * ((s_ys x2.toNatClampNeg) - (s_ys x4.toNatClampNeg)).toInt64) - (((s_ys x1.toNatClampNeg) - (s_ys x4.toNatClampNeg)).toInt64 * ((s_xs x2.toNatClampNeg) - (s_xs x4.toNatClampNeg)).toInt64))).bind fun r13 => (some r13)) else none) else none) else none) else none) else none) else none) else none) else none) else none) else none) else none) else none)
def f_M_addToRing_b52  (s_xs : Nat → Int32) (s_ys : Nat → Int32) (s_ri : Nat → Int32) (s_rn : Int32) (x2 : Int32) (x3 : Int32) : Option ((Nat → Int32) × Int32) := (if ix x3 20 then (some ((upd s_ri x3.toNatClampNeg x2), (s_rn + (1 : Int32)))) else none)
def f_M_addToRing_L5  (s_xs : Nat → Int32) (s_ys : Nat → Int32) : Nat → (Nat → Int32) → Int32 → Int32 → Int32 → Option ((Nat → Int32) × Int32)
  | 0, _, _, _, _ => none
  | n + 1, s_ri, s_rn, x2, x3 => (if x3 ≤ (1 : Int32) then (f_M_addToRing_b52 s_xs s_ys s_ri s_rn x2 x3) else (if ix (0 : Int32) 20 then (if ix (x3 - (1 : Int32)) 20 then ((f_P_side s_xs s_ys (s_ri (0 : Int32).toNatClampNeg) x2 (s_ri (x3 - (1 : Int32)).toNatClampNeg)).bind fun r5 => (if r5 ≤ 0 then (f_M_addToRing_b52 s_xs s_ys s_ri s_rn x2 x3) else (if ix (x3 - (1 : Int32)) 20 then (if ix x3 20 then (f_M_addToRing_L5 s_xs s_ys n (upd s_ri x3.toNatClampNeg (s_ri (x3 - (1 : Int32)).toNatClampNeg)) s_rn x2 (x3 + (-1))) else none) else none))) else none) else none))
def f_M_addToRing (s_xs : Nat → Int32) (s_ys : Nat → Int32) (s_ri : Nat → Int32) (s_rn : Int32) (x2 : Int32) : Option ((Nat → Int32) × Int32) := (f_M_addToRing_L5 s_xs s_ys 600 s_ri s_rn x2 s_rn)
def f_M_gatherRing_L8  (s_xs : Nat → Int32) (s_ys : Nat → Int32) (s_or : Nat → Int32) (s_pn : Int32) : Nat → (Nat → Int32) → Int32 → Int32 → Int32 → Int32 → Int32 → Option ((Nat → Int32) × Int32)
  | 0, _, _, _, _, _, _ => none
  | n + 1, s_ri, s_rn, x2, x3, x4, x5 => ((f_P_size s_pn).bind fun r1 => (if r1 ≤ x5 then (some (s_ri, s_rn)) else ((f_P_inOrder s_or x5).bind fun r5 => ((f_P_circleSide s_xs s_ys x2 x3 x4 r5).bind fun r8 => (if r8 = 0 then ((f_M_addToRing s_xs s_ys s_ri s_rn r5).bind fun v14 => (f_M_gatherRing_L8 s_xs s_ys s_or s_pn n v14.1 v14.2 x2 x3 x4 (x5 + 1))) else (f_M_gatherRing_L8 s_xs s_ys s_or s_pn n s_ri s_rn x2 x3 x4 (x5 + 1)))))))
def f_M_gatherRing (s_xs : Nat → Int32) (s_ys : Nat → Int32) (s_or : Nat → Int32) (s_pn : Int32) (s_ri : Nat → Int32) (s_rn : Int32) (x2 : Int32) (x3 : Int32) (x4 : Int32) : Option ((Nat → Int32) × Int32) := (f_M_gatherRing_L8 s_xs s_ys s_or s_pn 600 s_ri (0 : Int32) x2 x3 x4 (0 : Int32))
def f_M_addTriangle_b84  (s_rn : Int32) (s_ke : Nat → Int32) (s_fs : Nat → Int32) (s_mn : Int32) (x4 : Int32) (x5 : Int32) : Option ((Nat → Int32) × (Nat → Int32) × Int32) := (if ix x5 35 then (if ix x5 35 then (some ((upd s_ke x5.toNatClampNeg x4), (upd s_fs x5.toNatClampNeg s_rn), (s_mn + (1 : Int32)))) else none) else none)
def f_M_addTriangle_L27  (s_rn : Int32) : Nat → (Nat → Int32) → (Nat → Int32) → Int32 → Int32 → Int32 → Option ((Nat → Int32) × (Nat → Int32) × Int32)
  | 0, _, _, _, _, _ => none
  | n + 1, s_ke, s_fs, s_mn, x4, x5 => (if x5 ≤ 0 then (f_M_addTriangle_b84 s_rn s_ke s_fs s_mn x4 x5) else (if ix (x5 - (1 : Int32)) 35 then (if (s_ke (x5 - (1 : Int32)).toNatClampNeg) ≤ x4 then (f_M_addTriangle_b84 s_rn s_ke s_fs s_mn x4 x5) else (if ix (x5 - (1 : Int32)) 35 then (if ix x5 35 then (if ix (x5 - (1 : Int32)) 35 then (if ix x5 35 then (f_M_addTriangle_L27 s_rn n (upd s_ke x5.toNatClampNeg (s_ke (x5 - (1 : Int32)).toNatClampNeg)) (upd s_fs x5.toNatClampNeg (s_fs (x5 - (1 : Int32)).toNatClampNeg)) s_mn x4 (x5 + (-1))) else none) else none) else none) else none)) else none))
def f_M_addTriangle (s_ke : Nat → Int32) (s_fs : Nat → Int32) (s_mn : Int32) (s_rn : Int32) (x1 : Int32) (x2 : Int32) (x3 : Int32) : Option ((Nat → Int32) × (Nat → Int32) × Int32) := (if s_mn < (35 : Int32) then (f_M_addTriangle_L27 s_rn 600 s_ke s_fs s_mn ((((x1 <<< ((5 : Int32) &&& 31)) ||| x2) <<< ((5 : Int32) &&& 31)) ||| x3) s_mn) else (some (s_ke, s_fs, s_mn)))
def f_M_addFace_b78 (k42 : (Nat → Int32) → (Nat → Int32) → Int32 → (Nat → Int32) → (Nat → Int32) → Int32 → Int32 → Option ((Nat → Int32) × (Nat → Int32) × Int32 × (Nat → Int32) × (Nat → Int32) × Int32)) (s_ri : Nat → Int32) (s_rn : Int32) (s_ke : Nat → Int32) (s_fs : Nat → Int32) (s_mn : Int32) (s_li : Nat → Int32) (s_wa : Nat → Int32) (s_wn : Int32) (x1 : Int32) (x2 : Int32) (z1 : Int32) : Option ((Nat → Int32) × (Nat → Int32) × Int32 × (Nat → Int32) × (Nat → Int32) × Int32) := (if ix z1 20 then ((f_M_link s_li x2 (s_ri z1.toNatClampNeg)).bind fun r2 => ((f_M_isLinked r2 (s_ri z1.toNatClampNeg) x2).bind fun r5 => (if r5 = 0 then ((f_M_await s_wa s_wn (s_ri z1.toNatClampNeg) x2).bind fun v11 => (k42 s_ke s_fs s_mn r2 v11.1 v11.2 (x1 + 1))) else (k42 s_ke s_fs s_mn r2 s_wa s_wn (x1 + 1))))) else none)
def f_M_addFace_L42  (s_ri : Nat → Int32) (s_rn : Int32) : Nat → (Nat → Int32) → (Nat → Int32) → Int32 → (Nat → Int32) → (Nat → Int32) → Int32 → Int32 → Option ((Nat → Int32) × (Nat → Int32) × Int32 × (Nat → Int32) × (Nat → Int32) × Int32)
  | 0, _, _, _, _, _, _, _ => none
  | n + 1, s_ke, s_fs, s_mn, s_li, s_wa, s_wn, x1 => (if s_rn ≤ x1 then (some (s_ke, s_fs, s_mn, s_li, s_wa, s_wn)) else (if ix x1 20 then (if s_rn ≤ (x1 + (1 : Int32)) then (f_M_addFace_b78 (fun s_ke s_fs s_mn s_li s_wa s_wn x1 => f_M_addFace_L42 s_ri s_rn n s_ke s_fs s_mn s_li s_wa s_wn x1) s_ri s_rn s_ke s_fs s_mn s_li s_wa s_wn x1 (s_ri x1.toNatClampNeg) (0 : Int32)) else (f_M_addFace_b78 (fun s_ke s_fs s_mn s_li s_wa s_wn x1 => f_M_addFace_L42 s_ri s_rn n s_ke s_fs s_mn s_li s_wa s_wn x1) s_ri s_rn s_ke s_fs s_mn s_li s_wa s_wn x1 (s_ri x1.toNatClampNeg) (x1 + (1 : Int32)))) else none))
def f_M_addFace_L2  (s_ri : Nat → Int32) (s_rn : Int32) : Nat → (Nat → Int32) → (Nat → Int32) → Int32 → (Nat → Int32) → (Nat → Int32) → Int32 → Int32 → Option ((Nat → Int32) × (Nat → Int32) × Int32 × (Nat → Int32) × (Nat → Int32) × Int32)
  | 0, _, _, _, _, _, _, _ => none
  | n + 1, s_ke, s_fs, s_mn, s_li, s_wa, s_wn, x1 => (if s_rn ≤ x1 then (f_M_addFace_L42 s_ri s_rn 600 s_ke s_fs s_mn s_li s_wa s_wn (0 : Int32)) else (if ix (0 : Int32) 20 then (if ix (x1 - (1 : Int32)) 20 then (if ix x1 20 then ((f_M_addTriangle s_ke s_fs s_mn s_rn (s_ri (0 : Int32).toNatClampNeg) (s_ri (x1 - (1 : Int32)).toNatClampNeg) (s_ri x1.toNatClampNeg)).bind fun v23 => (f_M_addFace_L2 s_ri s_rn n v23.1 v23.2.1 v23.2.2 s_li s_wa s_wn (x1 + 1))) else none) else none) else none))
def f_M_addFace (s_ke : Nat → Int32) (s_fs : Nat → Int32) (s_mn : Int32) (s_li : Nat → Int32) (s_wa : Nat → Int32) (s_wn : Int32) (s_ri : Nat → Int32) (s_rn : Int32) : Option ((Nat → Int32) × (Nat → Int32) × Int32 × (Nat → Int32) × (Nat → Int32) × Int32) := (f_M_addFace_L2 s_ri s_rn 600 s_ke s_fs s_mn s_li s_wa s_wn (2 : Int32))
def f_M_apexOver_L5  (s_xs : Nat → Int32) (s_ys : Nat → Int32) (s_or : Nat → Int32) (s_pn : Int32) : Nat → Int32 → Int32 → Int32 → Int32 → Option (Int32)
  | 0, _, _, _, _ => none
  | n + 1, x1, x2, x3, x4 => ((f_P_size s_pn).bind fun r1 => (if r1 ≤ x4 then (some x3) else ((f_P_inOrder s_or x4).bind fun r5 => ((f_P_side s_xs s_ys x1 x2 r5).bind fun r8 => (if r8 ≤ 0 then (f_M_apexOver_L5 s_xs s_ys s_or s_pn n x1 x2 x3 (x4 + 1)) else (if x3 = (-1 : Int32) then (f_M_apexOver_L5 s_xs s_ys s_or s_pn n x1 x2 r5 (x4 + 1)) else ((f_P_circleSide s_xs s_ys x1 x2 x3 r5).bind fun r13 => (if r13 ≤ 0 then (f_M_apexOver_L5 s_xs s_ys s_or s_pn n x1 x2 x3 (x4 + 1)) else (f_M_apexOver_L5 s_xs s_ys s_or s_pn n x1 x2 r5 (x4 + 1))))))))))
def f_M_apexOver (s_xs : Nat → Int32) (s_ys : Nat → Int32) (s_or : Nat → Int32) (s_pn : Int32) (x1 : Int32) (x2 : Int32) : Option (Int32) := (f_M_apexOver_L5 s_xs s_ys s_or s_pn 600 x1 x2 (-1 : Int32) (0 : Int32))
def f_M_spread_b72 (k2 : (Nat → Int32) → (Nat → Int32) → Int32 → (Nat → Int32) → (Nat → Int32) → Int32 → (Nat → Int32) → Int32 → Int32 → Option ((Nat → Int32) × (Nat → Int32) × Int32 × (Nat → Int32) × (Nat → Int32) × Int32 × (Nat → Int32) × Int32)) (s_xs : Nat → Int32) (s_ys : Nat → Int32) (s_or : Nat → Int32) (s_pn : Int32) (s_ke : Nat → Int32) (s_fs : Nat → Int32) (s_mn : Int32) (s_li : Nat → Int32) (s_wa : Nat → Int32) (s_wn : Int32) (s_ri : Nat → Int32) (s_rn : Int32) (x2 : Int32) (x3 : Int32) (x4 : Int32) (z0 : Int32) : Option ((Nat → Int32) × (Nat → Int32) × Int32 × (Nat → Int32) × (Nat → Int32) × Int32 × (Nat → Int32) × Int32) := (if z0 = (-1 : Int32) then (k2 s_ke s_fs s_mn s_li s_wa s_wn s_ri s_rn (x2 + 1)) else ((f_M_gatherRing s_xs s_ys s_or s_pn s_ri s_rn x3 x4 z0).bind fun v4 => ((f_M_addFace s_ke s_fs s_mn s_li s_wa s_wn v4.1 v4.2).bind fun v12 => (k2 v12.1 v12.2.1 v12.2.2.1 v12.2.2.2.1 v12.2.2.2.2.1 v12.2.2.2.2.2 v4.1 v4.2 (x2 + 1)))))
def f_M_spread_L2  (s_xs : Nat → Int32) (s_ys : Nat → Int32) (s_or : Nat → Int32) (s_pn : Int32) : Nat → (Nat → Int32) → (Nat → Int32) → Int32 → (Nat → Int32) → (Nat → Int32) → Int32 → (Nat → Int32) → Int32 → Int32 → Option ((Nat → Int32) × (Nat → Int32) × Int32 × (Nat → Int32) × (Nat → Int32) × Int32 × (Nat → Int32) × Int32)
  | 0, _, _, _, _, _, _, _, _, _ => none
  | n + 1, s_ke, s_fs, s_mn, s_li, s_wa, s_wn, s_ri, s_rn, x2 => (if (54 : Int32) ≤ x2 then (some (s_ke, s_fs, s_mn, s_li, s_wa, s_wn, s_ri, s_rn)) else (if s_wn ≤ 0 then (some (s_ke, s_fs, s_mn, s_li, s_wa, s_wn, s_ri, s_rn)) else (if ix (s_wn - (1 : Int32)) 54 then (if ix (s_wn - (1 : Int32)) 54 then ((f_M_isLinked s_li ((s_wa (s_wn - (1 : Int32)).toNatClampNeg) >>> ((5 : Int32) &&& 31)) ((s_wa (s_wn - (1 : Int32)).toNatClampNeg) &&& (31 : Int32))).bind fun r18 => (if r18 = 0 then ((f_M_apexOver s_xs s_ys s_or s_pn ((s_wa (s_wn - (1 : Int32)).toNatClampNeg) >>> ((5 : Int32) &&& 31)) ((s_wa (s_wn - (1 : Int32)).toNatClampNeg) &&& (31 : Int32))).bind fun r22 => (f_M_spread_b72 (fun s_ke s_fs s_mn s_li s_wa s_wn s_ri s_rn x2 => f_M_spread_L2 s_xs s_ys s_or s_pn n s_ke s_fs s_mn s_li s_wa s_wn s_ri s_rn x2) s_xs s_ys s_or s_pn s_ke s_fs s_mn s_li s_wa (s_wn - (1 : Int32)) s_ri s_rn x2 ((s_wa (s_wn - (1 : Int32)).toNatClampNeg) >>> ((5 : Int32) &&& 31)) ((s_wa (s_wn - (1 : Int32)).toNatClampNeg) &&& (31 : Int32)) r22)) else (f_M_spread_b72 (fun s_ke s_fs s_mn s_li s_wa s_wn s_ri s_rn x2 => f_M_spread_L2 s_xs s_ys s_or s_pn n s_ke s_fs s_mn s_li s_wa s_wn s_ri s_rn x2) s_xs s_ys s_or s_pn s_ke s_fs s_mn s_li s_wa (s_wn - (1 : Int32)) s_ri s_rn x2 ((s_wa (s_wn - (1 : Int32)).toNatClampNeg) >>> ((5 : Int32) &&& 31)) ((s_wa (s_wn - (1 : Int32)).toNatClampNeg) &&& (31 : Int32)) (-1 : Int32)))) else none) else none)))
def f_M_spread (s_xs : Nat → Int32) (s_ys : Nat → Int32) (s_or : Nat → Int32) (s_pn : Int32) (s_ke : Nat → Int32) (s_fs : Nat → Int32) (s_mn : Int32) (s_li : Nat → Int32) (s_wa : Nat → Int32) (s_wn : Int32) (s_ri : Nat → Int32) (s_rn : Int32) : Option ((Nat → Int32) × (Nat → Int32) × Int32 × (Nat → Int32) × (Nat → Int32) × Int32 × (Nat → Int32) × Int32) := (f_M_spread_L2 s_xs s_ys s_or s_pn 600 s_ke s_fs s_mn s_li s_wa s_wn s_ri s_rn (0 : Int32))
def f_F_refresh (s_st : Int32) (s_xs : Nat → Int32) (s_ys : Nat → Int32) (s_or : Nat → Int32) (s_pn : Int32) (s_row : Nat → Int32) (s_on : Int32) (s_fl : Int32) (s_ke : Nat → Int32) (s_fs : Nat → Int32) (s_mn : Int32) (s_li : Nat → Int32) (s_wa : Nat → Int32) (s_wn : Int32) (s_ri : Nat → Int32) (s_rn : Int32) : Option (Int32 × (Nat → Int32) × Int32 × Int32 × (Nat → Int32) × (Nat → Int32) × Int32 × (Nat → Int32) × (Nat → Int32) × Int32 × (Nat → Int32) × Int32) := (if s_st = 0 then (some (s_st, s_row, s_on, s_fl, s_ke, s_fs, s_mn, s_li, s_wa, s_wn, s_ri, s_rn)) else ((f_O_trace s_xs s_ys s_or s_pn s_row s_on s_fl).bind fun v5 => ((f_M_begin v5.1 v5.2.1 v5.2.2 s_mn s_li s_wa s_wn).bind fun v11 => ((f_M_spread s_xs s_ys s_or s_pn s_ke s_fs v11.1 v11.2.1 v11.2.2.1 v11.2.2.2 s_ri s_rn).bind fun v21 => (some ((0 : Int32), v5.1, v5.2.1, v5.2.2, v21.1, v21.2.1, v21.2.2.1, v21.2.2.2.1, v21.2.2.2.2.1, v21.2.2.2.2.2.1, v21.2.2.2.2.2.2.1, v21.2.2.2.2.2.2.2))))))
def f_M_size (s_mn : Int32) : Option (Int32) := (some s_mn)
def f_F_triangles (s_st : Int32) (s_xs : Nat → Int32) (s_ys : Nat → Int32) (s_or : Nat → Int32) (s_pn : Int32) (s_row : Nat → Int32) (s_on : Int32) (s_fl : Int32) (s_ke : Nat → Int32) (s_fs : Nat → Int32) (s_mn : Int32) (s_li : Nat → Int32) (s_wa : Nat → Int32) (s_wn : Int32) (s_ri : Nat → Int32) (s_rn : Int32) : Option (Int32 × Int32 × (Nat → Int32) × Int32 × Int32 × (Nat → Int32) × (Nat → Int32) × Int32 × (Nat → Int32) × (Nat → Int32) × Int32 × (Nat → Int32) × Int32) := ((f_F_refresh s_st s_xs s_ys s_or s_pn s_row s_on s_fl s_ke s_fs s_mn s_li s_wa s_wn s_ri s_rn).bind fun v13 => ((f_M_size v13.2.2.2.2.2.2.1).bind fun r15 => (some (r15, v13.1, v13.2.1, v13.2.2.1, v13.2.2.2.1, v13.2.2.2.2.1, v13.2.2.2.2.2.1, v13.2.2.2.2.2.2.1, v13.2.2.2.2.2.2.2.1, v13.2.2.2.2.2.2.2.2.1, v13.2.2.2.2.2.2.2.2.2.1, v13.2.2.2.2.2.2.2.2.2.2.1, v13.2.2.2.2.2.2.2.2.2.2.2))))
def f_M_has (s_mn : Int32) (x1 : Int32) : Option (Int32) := (if x1 < 0 then (some (0 : Int32)) else (if s_mn ≤ x1 then (some (0 : Int32)) else (some (1 : Int32))))
def f_M_corner (s_ke : Nat → Int32) (x1 : Int32) (x2 : Int32) : Option (Int32) := (if ix x1 35 then (some (((s_ke x1.toNatClampNeg) >>> ((((2 : Int32) - x2) * (5 : Int32)) &&& 31)) &&& (31 : Int32))) else none)
def f_F_triangle (s_st : Int32) (s_xs : Nat → Int32) (s_ys : Nat → Int32) (s_or : Nat → Int32) (s_pn : Int32) (s_row : Nat → Int32) (s_on : Int32) (s_fl : Int32) (s_ke : Nat → Int32) (s_fs : Nat → Int32) (s_mn : Int32) (s_li : Nat → Int32) (s_wa : Nat → Int32) (s_wn : Int32) (s_ri : Nat → Int32) (s_rn : Int32) (x1 : Int32) : Option (Int32 × Int32 × (Nat → Int32) × Int32 × Int32 × (Nat → Int32) × (Nat → Int32) × Int32 × (Nat → Int32) × (Nat → Int32) × Int32 × (Nat → Int32) × Int32) := ((f_F_refresh s_st s_xs s_ys s_or s_pn s_row s_on s_fl s_ke s_fs s_mn s_li s_wa s_wn s_ri s_rn).bind fun v13 => ((f_M_has v13.2.2.2.2.2.2.1 x1).bind fun r15 => (if r15 = 0 then (some ((-1 : Int32), v13.1, v13.2.1, v13.2.2.1, v13.2.2.2.1, v13.2.2.2.2.1, v13.2.2.2.2.2.1, v13.2.2.2.2.2.2.1, v13.2.2.2.2.2.2.2.1, v13.2.2.2.2.2.2.2.2.1, v13.2.2.2.2.2.2.2.2.2.1, v13.2.2.2.2.2.2.2.2.2.2.1, v13.2.2.2.2.2.2.2.2.2.2.2)) else ((f_M_corner v13.2.2.2.2.1 x1 (0 : Int32)).bind fun r19 => ((f_M_corner v13.2.2.2.2.1 x1 (1 : Int32)).bind fun r22 => ((f_M_corner v13.2.2.2.2.1 x1 (2 : Int32)).bind fun r25 => (some (((r19 + ((32 : Int32) * r22)) + ((1024 : Int32) * r25)), v13.1, v13.2.1, v13.2.2.1, v13.2.2.2.1, v13.2.2.2.2.1, v13.2.2.2.2.2.1, v13.2.2.2.2.2.2.1, v13.2.2.2.2.2.2.2.1, v13.2.2.2.2.2.2.2.2.1, v13.2.2.2.2.2.2.2.2.2.1, v13.2.2.2.2.2.2.2.2.2.2.1, v13.2.2.2.2.2.2.2.2.2.2.2))))))))
def f_M_cornerSet (s_ke : Nat → Int32) (x1 : Int32) : Option (Int32) := ((f_M_corner s_ke x1 (0 : Int32)).bind fun r1 => ((f_M_corner s_ke x1 (1 : Int32)).bind fun r4 => ((f_M_corner s_ke x1 (2 : Int32)).bind fun r7 => (some ((((1 : Int32) <<< (r1 &&& 31)) ||| ((1 : Int32) <<< (r4 &&& 31))) ||| ((1 : Int32) <<< (r7 &&& 31)))))))
def f_F_number_L55  (s_xs : Nat → Int32) (s_ys : Nat → Int32) (s_tk : Nat → Int32) (s_or : Nat → Int32) (s_pn : Int32) : Nat → Int32 → (Nat → Int32) → Int32 → Int32 → (Nat → Int32) → (Nat → Int32) → Int32 → (Nat → Int32) → (Nat → Int32) → Int32 → (Nat → Int32) → Int32 → Int32 → Int32 → Option (Int32 × Int32 × (Nat → Int32) × Int32 × Int32 × (Nat → Int32) × (Nat → Int32) × Int32 × (Nat → Int32) × (Nat → Int32) × Int32 × (Nat → Int32) × Int32)
  | 0, _, _, _, _, _, _, _, _, _, _, _, _, _, _ => none
  | n + 1, s_st, s_row, s_on, s_fl, s_ke, s_fs, s_mn, s_li, s_wa, s_wn, s_ri, s_rn, x4, x5 => ((f_M_size s_mn).bind fun r1 => (if r1 ≤ x5 then (some ((-1 : Int32), s_st, s_row, s_on, s_fl, s_ke, s_fs, s_mn, s_li, s_wa, s_wn, s_ri, s_rn)) else ((f_M_cornerSet s_ke x5).bind fun r5 => (if r5 = x4 then (some (x5, s_st, s_row, s_on, s_fl, s_ke, s_fs, s_mn, s_li, s_wa, s_wn, s_ri, s_rn)) else (f_F_number_L55 s_xs s_ys s_tk s_or s_pn n s_st s_row s_on s_fl s_ke s_fs s_mn s_li s_wa s_wn s_ri s_rn x4 (x5 + 1))))))
def f_F_number (s_st : Int32) (s_xs : Nat → Int32) (s_ys : Nat → Int32) (s_tk : Nat → Int32) (s_or : Nat → Int32) (s_pn : Int32) (s_row : Nat → Int32) (s_on : Int32) (s_fl : Int32) (s_ke : Nat → Int32) (s_fs : Nat → Int32) (s_mn : Int32) (s_li : Nat → Int32) (s_wa : Nat → Int32) (s_wn : Int32) (s_ri : Nat → Int32) (s_rn : Int32) (x1 : Int32) (x2 : Int32) (x3 : Int32) : Option (Int32 × Int32 × (Nat → Int32) × Int32 × Int32 × (Nat → Int32) × (Nat → Int32) × Int32 × (Nat → Int32) × (Nat → Int32) × Int32 × (Nat → Int32) × Int32) := ((f_P_has s_tk x1).bind fun r9 => (if r9 = 0 then (some ((-1 : Int32), s_st, s_row, s_on, s_fl, s_ke, s_fs, s_mn, s_li, s_wa, s_wn, s_ri, s_rn)) else ((f_P_has s_tk x2).bind fun r13 => (if r13 = 0 then (some ((-1 : Int32), s_st, s_row, s_on, s_fl, s_ke, s_fs, s_mn, s_li, s_wa, s_wn, s_ri, s_rn)) else ((f_P_has s_tk x3).bind fun r17 => (if r17 = 0 then (some ((-1 : Int32), s_st, s_row, s_on, s_fl, s_ke, s_fs, s_mn, s_li, s_wa, s_wn, s_ri, s_rn)) else ((f_F_refresh s_st s_xs s_ys s_or s_pn s_row s_on s_fl s_ke s_fs s_mn s_li s_wa s_wn s_ri s_rn).bind fun v33 => (f_F_number_L55 s_xs s_ys s_tk s_or s_pn 600 v33.1 v33.2.1 v33.2.2.1 v33.2.2.2.1 v33.2.2.2.2.1 v33.2.2.2.2.2.1 v33.2.2.2.2.2.2.1 v33.2.2.2.2.2.2.2.1 v33.2.2.2.2.2.2.2.2.1 v33.2.2.2.2.2.2.2.2.2.1 v33.2.2.2.2.2.2.2.2.2.2.1 v33.2.2.2.2.2.2.2.2.2.2.2 ((((1 : Int32) <<< (x1 &&& 31)) ||| ((1 : Int32) <<< (x2 &&& 31))) ||| ((1 : Int32) <<< (x3 &&& 31))) (0 : Int32)))))))))
def f_F_across_L52  (s_xs : Nat → Int32) (s_ys : Nat → Int32) (s_or : Nat → Int32) (s_pn : Int32) : Nat → Int32 → (Nat → Int32) → Int32 → Int32 → (Nat → Int32) → (Nat → Int32) → Int32 → (Nat → Int32) → (Nat → Int32) → Int32 → (Nat → Int32) → Int32 → Int32 → Int32 → Int32 → Option (Int32 × Int32 × (Nat → Int32) × Int32 × Int32 × (Nat → Int32) × (Nat → Int32) × Int32 × (Nat → Int32) × (Nat → Int32) × Int32 × (Nat → Int32) × Int32)
  | 0, _, _, _, _, _, _, _, _, _, _, _, _, _, _, _ => none
  | n + 1, s_st, s_row, s_on, s_fl, s_ke, s_fs, s_mn, s_li, s_wa, s_wn, s_ri, s_rn, x1, x3, x4 => ((f_M_size s_mn).bind fun r1 => (if r1 ≤ x4 then (some ((-1 : Int32), s_st, s_row, s_on, s_fl, s_ke, s_fs, s_mn, s_li, s_wa, s_wn, s_ri, s_rn)) else (if x4 = x1 then (f_F_across_L52 s_xs s_ys s_or s_pn n s_st s_row s_on s_fl s_ke s_fs s_mn s_li s_wa s_wn s_ri s_rn x1 x3 (x4 + 1)) else ((f_M_cornerSet s_ke x4).bind fun r6 => (if (r6 &&& x3) = x3 then (some (x4, s_st, s_row, s_on, s_fl, s_ke, s_fs, s_mn, s_li, s_wa, s_wn, s_ri, s_rn)) else (f_F_across_L52 s_xs s_ys s_or s_pn n s_st s_row s_on s_fl s_ke s_fs s_mn s_li s_wa s_wn s_ri s_rn x1 x3 (x4 + 1)))))))
def f_F_across (s_st : Int32) (s_xs : Nat → Int32) (s_ys : Nat → Int32) (s_or : Nat → Int32) (s_pn : Int32) (s_row : Nat → Int32) (s_on : Int32) (s_fl : Int32) (s_ke : Nat → Int32) (s_fs : Nat → Int32) (s_mn : Int32) (s_li : Nat → Int32) (s_wa : Nat → Int32) (s_wn : Int32) (s_ri : Nat → Int32) (s_rn : Int32) (x1 : Int32) (x2 : Int32) : Option (Int32 × Int32 × (Nat → Int32) × Int32 × Int32 × (Nat → Int32) × (Nat → Int32) × Int32 × (Nat → Int32) × (Nat → Int32) × Int32 × (Nat → Int32) × Int32) := ((f_F_refresh s_st s_xs s_ys s_or s_pn s_row s_on s_fl s_ke s_fs s_mn s_li s_wa s_wn s_ri s_rn).bind fun v22 => ((f_M_has v22.2.2.2.2.2.2.1 x1).bind fun r24 => (if r24 = 0 then (some ((-1 : Int32), v22.1, v22.2.1, v22.2.2.1, v22.2.2.2.1, v22.2.2.2.2.1, v22.2.2.2.2.2.1, v22.2.2.2.2.2.2.1, v22.2.2.2.2.2.2.2.1, v22.2.2.2.2.2.2.2.2.1, v22.2.2.2.2.2.2.2.2.2.1, v22.2.2.2.2.2.2.2.2.2.2.1, v22.2.2.2.2.2.2.2.2.2.2.2)) else (if x2 < 0 then (some ((-1 : Int32), v22.1, v22.2.1, v22.2.2.1, v22.2.2.2.1, v22.2.2.2.2.1, v22.2.2.2.2.2.1, v22.2.2.2.2.2.2.1, v22.2.2.2.2.2.2.2.1, v22.2.2.2.2.2.2.2.2.1, v22.2.2.2.2.2.2.2.2.2.1, v22.2.2.2.2.2.2.2.2.2.2.1, v22.2.2.2.2.2.2.2.2.2.2.2)) else (if x2 ≤ (2 : Int32) then ((f_M_cornerSet v22.2.2.2.2.1 x1).bind fun r30 => ((f_M_corner v22.2.2.2.2.1 x1 x2).bind fun r33 => (f_F_across_L52 s_xs s_ys s_or s_pn 600 v22.1 v22.2.1 v22.2.2.1 v22.2.2.2.1 v22.2.2.2.2.1 v22.2.2.2.2.2.1 v22.2.2.2.2.2.2.1 v22.2.2.2.2.2.2.2.1 v22.2.2.2.2.2.2.2.2.1 v22.2.2.2.2.2.2.2.2.2.1 v22.2.2.2.2.2.2.2.2.2.2.1 v22.2.2.2.2.2.2.2.2.2.2.2 x1 (r30 &&& (((1 : Int32) <<< (r33 &&& 31)) ^^^ (-1 : Int32))) (0 : Int32)))) else (some ((-1 : Int32), v22.1, v22.2.1, v22.2.2.1, v22.2.2.2.1, v22.2.2.2.2.1, v22.2.2.2.2.2.1, v22.2.2.2.2.2.2.1, v22.2.2.2.2.2.2.2.1, v22.2.2.2.2.2.2.2.2.1, v22.2.2.2.2.2.2.2.2.2.1, v22.2.2.2.2.2.2.2.2.2.2.1, v22.2.2.2.2.2.2.2.2.2.2.2)))))))
def f_M_faceSize (s_fs : Nat → Int32) (x1 : Int32) : Option (Int32) := (if ix x1 35 then (some (s_fs x1.toNatClampNeg)) else none)
def f_F_corners (s_st : Int32) (s_xs : Nat → Int32) (s_ys : Nat → Int32) (s_or : Nat → Int32) (s_pn : Int32) (s_row : Nat → Int32) (s_on : Int32) (s_fl : Int32) (s_ke : Nat → Int32) (s_fs : Nat → Int32) (s_mn : Int32) (s_li : Nat → Int32) (s_wa : Nat → Int32) (s_wn : Int32) (s_ri : Nat → Int32) (s_rn : Int32) (x1 : Int32) : Option (Int32 × Int32 × (Nat → Int32) × Int32 × Int32 × (Nat → Int32) × (Nat → Int32) × Int32 × (Nat → Int32) × (Nat → Int32) × Int32 × (Nat → Int32) × Int32) := ((f_F_refresh s_st s_xs s_ys s_or s_pn s_row s_on s_fl s_ke s_fs s_mn s_li s_wa s_wn s_ri s_rn).bind fun v13 => ((f_M_has v13.2.2.2.2.2.2.1 x1).bind fun r15 => (if r15 = 0 then (some ((-1 : Int32), v13.1, v13.2.1, v13.2.2.1, v13.2.2.2.1, v13.2.2.2.2.1, v13.2.2.2.2.2.1, v13.2.2.2.2.2.2.1, v13.2.2.2.2.2.2.2.1, v13.2.2.2.2.2.2.2.2.1, v13.2.2.2.2.2.2.2.2.2.1, v13.2.2.2.2.2.2.2.2.2.2.1, v13.2.2.2.2.2.2.2.2.2.2.2)) else ((f_M_faceSize v13.2.2.2.2.2.1 x1).bind fun r19 => (some (r19, v13.1, v13.2.1, v13.2.2.1, v13.2.2.2.1, v13.2.2.2.2.1, v13.2.2.2.2.2.1, v13.2.2.2.2.2.2.1, v13.2.2.2.2.2.2.2.1, v13.2.2.2.2.2.2.2.2.1, v13.2.2.2.2.2.2.2.2.2.1, v13.2.2.2.2.2.2.2.2.2.2.1, v13.2.2.2.2.2.2.2.2.2.2.2))))))
def f_F_covers (s_xs : Nat → Int32) (s_ys : Nat → Int32) (s_ke : Nat → Int32) (x1 : Int32) (x2 : Int32) (x3 : Int32) : Option (Int32) := ((f_M_corner s_ke x1 (0 : Int32)).bind fun r1 => ((f_M_corner s_ke x1 (1 : Int32)).bind fun r4 => ((f_M_corner s_ke x1 (2 : Int32)).bind fun r7 => ((f_P_crossTo s_xs s_ys r1 r4 x2 x3).bind fun r10 => (if (lg_cmp r10 (0 : Int64)) < 0 then (some (0 : Int32)) else ((f_P_crossTo s_xs s_ys r4 r7 x2 x3).bind fun r14 => (if (lg_cmp r14 (0 : Int64)) < 0 then (some (0 : Int32)) else ((f_P_crossTo s_xs s_ys r7 r1 x2 x3).bind fun r18 => (if (lg_cmp r18 (0 : Int64)) < 0 then (some (0 : Int32)) else (some (1 : Int32)))))))))))
def f_F_locate_L16  (s_xs : Nat → Int32) (s_ys : Nat → Int32) (s_or : Nat → Int32) (s_pn : Int32) : Nat → Int32 → (Nat → Int32) → Int32 → Int32 → (Nat → Int32) → (Nat → Int32) → Int32 → (Nat → Int32) → (Nat → Int32) → Int32 → (Nat → Int32) → Int32 → Int32 → Int32 → Int32 → Option (Int32 × Int32 × (Nat → Int32) × Int32 × Int32 × (Nat → Int32) × (Nat → Int32) × Int32 × (Nat → Int32) × (Nat → Int32) × Int32 × (Nat → Int32) × Int32)
  | 0, _, _, _, _, _, _, _, _, _, _, _, _, _, _, _ => none
  | n + 1, s_st, s_row, s_on, s_fl, s_ke, s_fs, s_mn, s_li, s_wa, s_wn, s_ri, s_rn, x1, x2, x3 => ((f_M_size s_mn).bind fun r1 => (if r1 ≤ x3 then (some ((-1 : Int32), s_st, s_row, s_on, s_fl, s_ke, s_fs, s_mn, s_li, s_wa, s_wn, s_ri, s_rn)) else ((f_F_covers s_xs s_ys s_ke x3 x1 x2).bind fun r5 => (if r5 = 0 then (f_F_locate_L16 s_xs s_ys s_or s_pn n s_st s_row s_on s_fl s_ke s_fs s_mn s_li s_wa s_wn s_ri s_rn x1 x2 (x3 + 1)) else (some (x3, s_st, s_row, s_on, s_fl, s_ke, s_fs, s_mn, s_li, s_wa, s_wn, s_ri, s_rn))))))
def f_F_locate (s_st : Int32) (s_xs : Nat → Int32) (s_ys : Nat → Int32) (s_or : Nat → Int32) (s_pn : Int32) (s_row : Nat → Int32) (s_on : Int32) (s_fl : Int32) (s_ke : Nat → Int32) (s_fs : Nat → Int32) (s_mn : Int32) (s_li : Nat → Int32) (s_wa : Nat → Int32) (s_wn : Int32) (s_ri : Nat → Int32) (s_rn : Int32) (x1 : Int32) (x2 : Int32) : Option (Int32 × Int32 × (Nat → Int32) × Int32 × Int32 × (Nat → Int32) × (Nat → Int32) × Int32 × (Nat → Int32) × (Nat → Int32) × Int32 × (Nat → Int32) × Int32) := ((f_F_inReach x1 x2).bind fun r9 => (if r9 = 0 then (some ((-1 : Int32), s_st, s_row, s_on, s_fl, s_ke, s_fs, s_mn, s_li, s_wa, s_wn, s_ri, s_rn)) else ((f_F_refresh s_st s_xs s_ys s_or s_pn s_row s_on s_fl s_ke s_fs s_mn s_li s_wa s_wn s_ri s_rn).bind fun v25 => (f_F_locate_L16 s_xs s_ys s_or s_pn 600 v25.1 v25.2.1 v25.2.2.1 v25.2.2.2.1 v25.2.2.2.2.1 v25.2.2.2.2.2.1 v25.2.2.2.2.2.2.1 v25.2.2.2.2.2.2.2.1 v25.2.2.2.2.2.2.2.2.1 v25.2.2.2.2.2.2.2.2.2.1 v25.2.2.2.2.2.2.2.2.2.2.1 v25.2.2.2.2.2.2.2.2.2.2.2 x1 x2 (0 : Int32)))))
def f_P_squaredDistance (s_xs : Nat → Int32) (s_ys : Nat → Int32) (x1 : Int32) (x2 : Int32) (x3 : Int32) : Option (Int64) := (if ix x1 20 then (if ix x1 20 then (some ((((s_xs x1.toNatClampNeg) - x2).toInt64 * ((s_xs x1.toNatClampNeg) - x2).toInt64) + (((s_ys x1.toNatClampNeg) - x3).toInt64 * ((s_ys x1.toNatClampNeg) - x3).toInt64))) else none) else none)
def f_F_nearest_b63 (k18 : Int32 → Int32 → Int32 → Int64 → Int32 → Option (Int32)) (s_xs : Nat → Int32) (s_ys : Nat → Int32) (s_tk : Nat → Int32) (x1 : Int32) (x2 : Int32) (x6 : Int32) (x7 : Int64) : Option (Int32) := (k18 x1 x2 x6 x7 (x6 + 1))
def f_F_nearest_L18  (s_xs : Nat → Int32) (s_ys : Nat → Int32) (s_tk : Nat → Int32) : Nat → Int32 → Int32 → Int32 → Int64 → Int32 → Option (Int32)
  | 0, _, _, _, _, _ => none
  | n + 1, x1, x2, x3, x4, x6 => (if (20 : Int32) ≤ x6 then (some x3) else ((f_P_has s_tk x6).bind fun r2 => (if r2 = 0 then (f_F_nearest_L18 s_xs s_ys s_tk n x1 x2 x3 x4 (x6 + 1)) else ((f_P_squaredDistance s_xs s_ys x6 x1 x2).bind fun r6 => (if x3 = (-1 : Int32) then (f_F_nearest_b63 (fun x1 x2 x3 x4 x6 => f_F_nearest_L18 s_xs s_ys s_tk n x1 x2 x3 x4 x6) s_xs s_ys s_tk x1 x2 x6 r6) else (if 0 ≤ (lg_cmp r6 x4) then (f_F_nearest_L18 s_xs s_ys s_tk n x1 x2 x3 x4 (x6 + 1)) else (f_F_nearest_b63 (fun x1 x2 x3 x4 x6 => f_F_nearest_L18 s_xs s_ys s_tk n x1 x2 x3 x4 x6) s_xs s_ys s_tk x1 x2 x6 r6)))))))
def f_F_nearest (s_xs : Nat → Int32) (s_ys : Nat → Int32) (s_tk : Nat → Int32) (x1 : Int32) (x2 : Int32) : Option (Int32) := ((f_F_inReach x1 x2).bind fun r11 => (if r11 = 0 then (some (-1 : Int32)) else (f_F_nearest_L18 s_xs s_ys s_tk 600 x1 x2 (-1 : Int32) (0 : Int64) (0 : Int32))))
def f_M_linkedTo (s_li : Nat → Int32) (x1 : Int32) : Option (Int32) := (if ix x1 20 then (some (s_li x1.toNatClampNeg)) else none)
def f_F_neighbours (s_st : Int32) (s_xs : Nat → Int32) (s_ys : Nat → Int32) (s_tk : Nat → Int32) (s_or : Nat → Int32) (s_pn : Int32) (s_row : Nat → Int32) (s_on : Int32) (s_fl : Int32) (s_ke : Nat → Int32) (s_fs : Nat → Int32) (s_mn : Int32) (s_li : Nat → Int32) (s_wa : Nat → Int32) (s_wn : Int32) (s_ri : Nat → Int32) (s_rn : Int32) (x1 : Int32) : Option (Int32 × Int32 × (Nat → Int32) × Int32 × Int32 × (Nat → Int32) × (Nat → Int32) × Int32 × (Nat → Int32) × (Nat → Int32) × Int32 × (Nat → Int32) × Int32) := ((f_P_has s_tk x1).bind fun r1 => (if r1 = 0 then (some ((-1 : Int32), s_st, s_row, s_on, s_fl, s_ke, s_fs, s_mn, s_li, s_wa, s_wn, s_ri, s_rn)) else ((f_F_refresh s_st s_xs s_ys s_or s_pn s_row s_on s_fl s_ke s_fs s_mn s_li s_wa s_wn s_ri s_rn).bind fun v17 => ((f_M_linkedTo v17.2.2.2.2.2.2.2.1 x1).bind fun r19 => (some (r19, v17.1, v17.2.1, v17.2.2.1, v17.2.2.2.1, v17.2.2.2.2.1, v17.2.2.2.2.2.1, v17.2.2.2.2.2.2.1, v17.2.2.2.2.2.2.2.1, v17.2.2.2.2.2.2.2.2.1, v17.2.2.2.2.2.2.2.2.2.1, v17.2.2.2.2.2.2.2.2.2.2.1, v17.2.2.2.2.2.2.2.2.2.2.2))))))
def f_F_boundary (s_st : Int32) (s_xs : Nat → Int32) (s_ys : Nat → Int32) (s_or : Nat → Int32) (s_pn : Int32) (s_row : Nat → Int32) (s_on : Int32) (s_fl : Int32) (s_ke : Nat → Int32) (s_fs : Nat → Int32) (s_mn : Int32) (s_li : Nat → Int32) (s_wa : Nat → Int32) (s_wn : Int32) (s_ri : Nat → Int32) (s_rn : Int32) (x1 : Int32) : Option (Int32 × Int32 × (Nat → Int32) × Int32 × Int32 × (Nat → Int32) × (Nat → Int32) × Int32 × (Nat → Int32) × (Nat → Int32) × Int32 × (Nat → Int32) × Int32) := ((f_F_refresh s_st s_xs s_ys s_or s_pn s_row s_on s_fl s_ke s_fs s_mn s_li s_wa s_wn s_ri s_rn).bind fun v13 => (if x1 < 0 then (some ((-1 : Int32), v13.1, v13.2.1, v13.2.2.1, v13.2.2.2.1, v13.2.2.2.2.1, v13.2.2.2.2.2.1, v13.2.2.2.2.2.2.1, v13.2.2.2.2.2.2.2.1, v13.2.2.2.2.2.2.2.2.1, v13.2.2.2.2.2.2.2.2.2.1, v13.2.2.2.2.2.2.2.2.2.2.1, v13.2.2.2.2.2.2.2.2.2.2.2)) else ((f_O_size v13.2.2.1).bind fun r16 => (if r16 ≤ x1 then (some ((-1 : Int32), v13.1, v13.2.1, v13.2.2.1, v13.2.2.2.1, v13.2.2.2.2.1, v13.2.2.2.2.2.1, v13.2.2.2.2.2.2.1, v13.2.2.2.2.2.2.2.1, v13.2.2.2.2.2.2.2.2.1, v13.2.2.2.2.2.2.2.2.2.1, v13.2.2.2.2.2.2.2.2.2.2.1, v13.2.2.2.2.2.2.2.2.2.2.2)) else ((f_O_at v13.2.1 x1).bind fun r20 => (some (r20, v13.1, v13.2.1, v13.2.2.1, v13.2.2.2.1, v13.2.2.2.2.1, v13.2.2.2.2.2.1, v13.2.2.2.2.2.2.1, v13.2.2.2.2.2.2.2.1, v13.2.2.2.2.2.2.2.2.1, v13.2.2.2.2.2.2.2.2.2.1, v13.2.2.2.2.2.2.2.2.2.2.1, v13.2.2.2.2.2.2.2.2.2.2.2)))))))
def f_F_inside (s_xs : Nat → Int32) (s_ys : Nat → Int32) (s_tk : Nat → Int32) (x1 : Int32) (x2 : Int32) (x3 : Int32) (x4 : Int32) : Option (Int32) := ((f_P_has s_tk x1).bind fun r1 => (if r1 = 0 then (some (2 : Int32)) else ((f_P_has s_tk x2).bind fun r5 => (if r5 = 0 then (some (2 : Int32)) else ((f_P_has s_tk x3).bind fun r9 => (if r9 = 0 then (some (2 : Int32)) else ((f_P_has s_tk x4).bind fun r13 => (if r13 = 0 then (some (2 : Int32)) else ((f_P_side s_xs s_ys x1 x2 x3).bind fun r17 => (if r17 = 0 then (some (2 : Int32)) else ((f_P_circleSide s_xs s_ys x1 x2 x3 x4).bind fun r21 => (some (r17 * r21)))))))))))))
def f_P_doubleArea (s_xs : Nat → Int32) (s_ys : Nat → Int32) (x1 : Int32) (x2 : Int32) (x3 : Int32) : Option (Int64) := (if ix x3 20 then (if ix x3 20 then ((f_P_crossTo s_xs s_ys x1 x2 (s_xs x3.toNatClampNeg) (s_ys x3.toNatClampNeg)).bind fun r3 => (some r3)) else none) else none)
def f_F_area_L8  (s_xs : Nat → Int32) (s_ys : Nat → Int32) (s_or : Nat → Int32) (s_pn : Int32) : Nat → Int32 → (Nat → Int32) → Int32 → Int32 → (Nat → Int32) → (Nat → Int32) → Int32 → (Nat → Int32) → (Nat → Int32) → Int32 → (Nat → Int32) → Int32 → Int64 → Int32 → Option (Int64 × Int32 × (Nat → Int32) × Int32 × Int32 × (Nat → Int32) × (Nat → Int32) × Int32 × (Nat → Int32) × (Nat → Int32) × Int32 × (Nat → Int32) × Int32)
  | 0, _, _, _, _, _, _, _, _, _, _, _, _, _, _ => none
  | n + 1, s_st, s_row, s_on, s_fl, s_ke, s_fs, s_mn, s_li, s_wa, s_wn, s_ri, s_rn, x1, x3 => ((f_O_size s_on).bind fun r1 => (if r1 ≤ x3 then (some (x1, s_st, s_row, s_on, s_fl, s_ke, s_fs, s_mn, s_li, s_wa, s_wn, s_ri, s_rn)) else ((f_O_at s_row (0 : Int32)).bind fun r5 => ((f_O_at s_row (x3 - (1 : Int32))).bind fun r8 => ((f_O_at s_row x3).bind fun r11 => ((f_P_doubleArea s_xs s_ys r5 r8 r11).bind fun r14 => (f_F_area_L8 s_xs s_ys s_or s_pn n s_st s_row s_on s_fl s_ke s_fs s_mn s_li s_wa s_wn s_ri s_rn (x1 + r14) (x3 + 1))))))))
def f_F_area (s_st : Int32) (s_xs : Nat → Int32) (s_ys : Nat → Int32) (s_or : Nat → Int32) (s_pn : Int32) (s_row : Nat → Int32) (s_on : Int32) (s_fl : Int32) (s_ke : Nat → Int32) (s_fs : Nat → Int32) (s_mn : Int32) (s_li : Nat → Int32) (s_wa : Nat → Int32) (s_wn : Int32) (s_ri : Nat → Int32) (s_rn : Int32) : Option (Int64 × Int32 × (Nat → Int32) × Int32 × Int32 × (Nat → Int32) × (Nat → Int32) × Int32 × (Nat → Int32) × (Nat → Int32) × Int32 × (Nat → Int32) × Int32) := ((f_F_refresh s_st s_xs s_ys s_or s_pn s_row s_on s_fl s_ke s_fs s_mn s_li s_wa s_wn s_ri s_rn).bind fun v29 => (f_F_area_L8 s_xs s_ys s_or s_pn 600 v29.1 v29.2.1 v29.2.2.1 v29.2.2.2.1 v29.2.2.2.2.1 v29.2.2.2.2.2.1 v29.2.2.2.2.2.2.1 v29.2.2.2.2.2.2.2.1 v29.2.2.2.2.2.2.2.2.1 v29.2.2.2.2.2.2.2.2.2.1 v29.2.2.2.2.2.2.2.2.2.2.1 v29.2.2.2.2.2.2.2.2.2.2.2 (0 : Int64) (2 : Int32)))
def f_N_is (n_th : Nat → Int32) (x1 : Int32) : Option (Int32) := (if x1 < 0 then (some (0 : Int32)) else (if (20 : Int32) ≤ x1 then (some (0 : Int32)) else (if ix x1 20 then (if (n_th x1.toNatClampNeg) = 0 then (some (0 : Int32)) else (some (1 : Int32))) else none)))
def f_N_outside (x0 : Int32) (x1 : Int32) : Option (Int32) := (if x0 < (-1000000 : Int32) then (some (1 : Int32)) else (if (1000000 : Int32) < x0 then (some (1 : Int32)) else (if x1 < (-1000000 : Int32) then (some (1 : Int32)) else (if x1 ≤ (1000000 : Int32) then (some (0 : Int32)) else (some (1 : Int32))))))
def f_N_siteAt_L5  (n_th : Nat → Int32) (n_xs : Nat → Int32) (n_ys : Nat → Int32) : Nat → Int32 → Int32 → Int32 → Int32 → Option (Int32)
  | 0, _, _, _, _ => none
  | n + 1, x1, x2, x3, x4 => (if (20 : Int32) ≤ x4 then (some x3) else (if ix x4 20 then (if (n_th x4.toNatClampNeg) = 0 then (f_N_siteAt_L5 n_th n_xs n_ys n x1 x2 x3 (x4 + 1)) else (if ix x4 20 then (if (n_xs x4.toNatClampNeg) = x1 then (if ix x4 20 then (if (n_ys x4.toNatClampNeg) = x2 then (f_N_siteAt_L5 n_th n_xs n_ys n x1 x2 x4 (x4 + 1)) else (f_N_siteAt_L5 n_th n_xs n_ys n x1 x2 x3 (x4 + 1))) else none) else (f_N_siteAt_L5 n_th n_xs n_ys n x1 x2 x3 (x4 + 1))) else none)) else none))
def f_N_siteAt (n_th : Nat → Int32) (n_xs : Nat → Int32) (n_ys : Nat → Int32) (x1 : Int32) (x2 : Int32) : Option (Int32) := (f_N_siteAt_L5 n_th n_xs n_ys 600 x1 x2 (-1 : Int32) (0 : Int32))
def f_N_insert_L25   : Nat → (Nat → Int32) → (Nat → Int32) → (Nat → Int32) → Int32 → Int32 → Int32 → Int32 → Option (Int32 × (Nat → Int32) × (Nat → Int32) × (Nat → Int32) × Int32)
  | 0, _, _, _, _, _, _, _ => none
  | n + 1, n_th, n_xs, n_ys, n_kn, x1, x2, x3 => (if (20 : Int32) ≤ x3 then (some ((-4 : Int32), n_th, n_xs, n_ys, n_kn)) else (if ix x3 20 then (if (n_th x3.toNatClampNeg) = 0 then (if ix x3 20 then (if ix x3 20 then (if ix x3 20 then (some (x3, (upd n_th x3.toNatClampNeg (1 : Int32)), (upd n_xs x3.toNatClampNeg x1), (upd n_ys x3.toNatClampNeg x2), (0 : Int32))) else none) else none) else none) else (f_N_insert_L25  n n_th n_xs n_ys n_kn x1 x2 (x3 + 1))) else none))
def f_N_insert (n_th : Nat → Int32) (n_xs : Nat → Int32) (n_ys : Nat → Int32) (n_kn : Int32) (x1 : Int32) (x2 : Int32) : Option (Int32 × (Nat → Int32) × (Nat → Int32) × (Nat → Int32) × Int32) := ((f_N_outside x1 x2).bind fun r7 => (if r7 = 0 then ((f_N_siteAt n_th n_xs n_ys x1 x2).bind fun r11 => (if r11 < 0 then (f_N_insert_L25 600 n_th n_xs n_ys n_kn x1 x2 (0 : Int32)) else (some ((-3 : Int32), n_th, n_xs, n_ys, n_kn)))) else (some ((-2 : Int32), n_th, n_xs, n_ys, n_kn))))
def f_N_remove (n_th : Nat → Int32) (n_kn : Int32) (x1 : Int32) : Option (Int32 × (Nat → Int32) × Int32) := ((f_N_is n_th x1).bind fun r1 => (if r1 = 0 then (some ((0 : Int32), n_th, n_kn)) else (if ix x1 20 then (some ((1 : Int32), (upd n_th x1.toNatClampNeg (0 : Int32)), (0 : Int32))) else none)))
def f_N_move_b43  (n_th : Nat → Int32) (n_xs : Nat → Int32) (n_ys : Nat → Int32) (n_kn : Int32) (x1 : Int32) (x2 : Int32) (x3 : Int32) : Option (Int32 × (Nat → Int32) × (Nat → Int32) × Int32) := (if ix x1 20 then (if ix x1 20 then (some (x1, (upd n_xs x1.toNatClampNeg x2), (upd n_ys x1.toNatClampNeg x3), (0 : Int32))) else none) else none)
def f_N_move (n_th : Nat → Int32) (n_xs : Nat → Int32) (n_ys : Nat → Int32) (n_kn : Int32) (x1 : Int32) (x2 : Int32) (x3 : Int32) : Option (Int32 × (Nat → Int32) × (Nat → Int32) × Int32) := ((f_N_is n_th x1).bind fun r3 => (if r3 = 0 then (some ((-1 : Int32), n_xs, n_ys, n_kn)) else ((f_N_outside x2 x3).bind fun r7 => (if r7 = 0 then ((f_N_siteAt n_th n_xs n_ys x2 x3).bind fun r11 => (if r11 < 0 then (f_N_move_b43 n_th n_xs n_ys n_kn x1 x2 x3) else (if r11 = x1 then (f_N_move_b43 n_th n_xs n_ys n_kn x1 x2 x3) else (some ((-3 : Int32), n_xs, n_ys, n_kn))))) else (some ((-2 : Int32), n_xs, n_ys, n_kn))))))
def f_N_sites_b25 (k4 : Int32 → Int32 → Option (Int32)) (n_th : Nat → Int32) (x2 : Int32) (z0 : Int32) (z1 : Int32) : Option (Int32) := (k4 (z0 + z1) (x2 + 1))
def f_N_sites_L4  (n_th : Nat → Int32) : Nat → Int32 → Int32 → Option (Int32)
  | 0, _, _ => none
  | n + 1, x1, x2 => (if (20 : Int32) ≤ x2 then (some x1) else (if ix x2 20 then (if (n_th x2.toNatClampNeg) = 0 then (f_N_sites_b25 (fun x1 x2 => f_N_sites_L4 n_th n x1 x2) n_th x2 x1 (0 : Int32)) else (f_N_sites_b25 (fun x1 x2 => f_N_sites_L4 n_th n x1 x2) n_th x2 x1 (1 : Int32))) else none))
def f_N_sites (n_th : Nat → Int32) : Option (Int32) := (f_N_sites_L4 n_th 600 (0 : Int32) (0 : Int32))
def f_N_coordinate (n_th : Nat → Int32) (n_xs : Nat → Int32) (n_ys : Nat → Int32) (x1 : Int32) (x2 : Int32) : Option (Int32) := ((f_N_is n_th x1).bind fun r1 => (if r1 = 0 then (some (2000000 : Int32)) else (if x2 < 0 then (some (2000000 : Int32)) else (if x2 ≤ (1 : Int32) then (if x2 = 0 then (if ix x1 20 then (some (n_xs x1.toNatClampNeg)) else none) else (if ix x1 20 then (some (n_ys x1.toNatClampNeg)) else none)) else (some (2000000 : Int32))))))
def f_N_earlier (n_xs : Nat → Int32) (n_ys : Nat → Int32) (x1 : Int32) (x2 : Int32) : Option (Int32) := (if ix x1 20 then (if ix x2 20 then (if (n_xs x1.toNatClampNeg) < (n_xs x2.toNatClampNeg) then (some (1 : Int32)) else (if ix x1 20 then (if ix x2 20 then (if (n_xs x1.toNatClampNeg) = (n_xs x2.toNatClampNeg) then (if ix x1 20 then (if ix x2 20 then (if (n_ys x2.toNatClampNeg) ≤ (n_ys x1.toNatClampNeg) then (some (0 : Int32)) else (some (1 : Int32))) else none) else none) else (some (0 : Int32))) else none) else none)) else none) else none)
def f_N_sideOf (n_xs : Nat → Int32) (n_ys : Nat → Int32) (x1 : Int32) (x2 : Int32) (x3 : Int32) (x4 : Int32) : Option (Int32) := (if ix x2 20 then (if ix x1 20 then (if ix x1 20 then (if ix x2 20 then (if ix x1 20 then (if ix x1 20 then (if (lg_cmp ((((n_xs x2.toNatClampNeg) - (n_xs x1.toNatClampNeg)).toInt64 * (x4 - (n_ys x1.toNatClampNeg)).toInt64) - (((n_ys x2.toNatClampNeg) - (n_ys x1.toNatClampNeg)).toInt64 * (x3 - (n_xs x1.toNatClampNeg)).toInt64)) (0 : Int64)) ≤ 0 then (if 0 ≤ (lg_cmp ((((n_xs x2.toNatClampNeg) - (n_xs x1.toNatClampNeg)).toInt64 * (x4 - (n_ys x1.toNatClampNeg)).toInt64) - (((n_ys x2.toNatClampNeg) - (n_ys x1.toNatClampNeg)).toInt64 * (x3 - (n_xs x1.toNatClampNeg)).toInt64)) (0 : Int64)) then (some (0 : Int32)) else (some (-1 : Int32))) else (some (1 : Int32))) else none) else none) else none) else none) else none) else none)
def f_N_side (n_xs : Nat → Int32) (n_ys : Nat → Int32) (x1 : Int32) (x2 : Int32) (x3 : Int32) : Option (Int32) := (if ix x3 20 then (if ix x3 20 then ((f_N_sideOf n_xs n_ys x1 x2 (n_xs x3.toNatClampNeg) (n_ys x3.toNatClampNeg)).bind fun r3 => (some r3)) else none) else none)
def f_N_low (x0 : Int64) : Option (Int64) := (some (x0 &&& (4194303 : Int64)))
def f_N_sign_b192   (x16 : Int64) (z0 : Int32) : Option (Int32) := (if 0 ≤ (lg_cmp x16 (0 : Int64)) then (if 0 < (lg_cmp x16 (0 : Int64)) then (some (1 : Int32)) else (if z0 = 0 then (some (0 : Int32)) else (some (1 : Int32)))) else (some (-1 : Int32)))
def f_N_sign (x0 : Int64) (x2 : Int64) (x4 : Int64) (x6 : Int64) (x8 : Int64) (x10 : Int64) : Option (Int32) := ((f_N_low x0).bind fun r4 => ((f_N_low x2).bind fun r7 => ((f_N_low x4).bind fun r10 => ((f_N_low x6).bind fun r13 => ((f_N_low x8).bind fun r16 => ((f_N_low x10).bind fun r19 => ((f_N_low x2).bind fun r22 => ((f_N_low x0).bind fun r25 => ((f_N_low x6).bind fun r28 => ((f_N_low x4).bind fun r31 => ((f_N_low x10).bind fun r34 => ((f_N_low x8).bind fun r37 => ((f_N_low (((r4 * r7) + (r10 * r13)) + (r16 * r19))).bind fun r40 => (if (lg_cmp r40 (0 : Int64)) = 0 then ((f_N_low ((((((((x0 >>> ((22 : Int32).toInt64 &&& 63)) * r22) + (r25 * (x2 >>> ((22 : Int32).toInt64 &&& 63)))) + ((x4 >>> ((22 : Int32).toInt64 &&& 63)) * r28)) + (r31 * (x6 >>> ((22 : Int32).toInt64 &&& 63)))) + ((x8 >>> ((22 : Int32).toInt64 &&& 63)) * r34)) + (r37 * (x10 >>> ((22 : Int32).toInt64 &&& 63)))) + ((((r4 * r7) + (r10 * r13)) + (r16 * r19)) >>> ((22 : Int32).toInt64 &&& 63)))).bind fun r44 => (if (lg_cmp r44 (0 : Int64)) = 0 then (f_N_sign_b192 (((((x0 >>> ((22 : Int32).toInt64 &&& 63)) * (x2 >>> ((22 : Int32).toInt64 &&& 63))) + ((x4 >>> ((22 : Int32).toInt64 &&& 63)) * (x6 >>> ((22 : Int32).toInt64 &&& 63)))) + ((x8 >>> ((22 : Int32).toInt64 &&& 63)) * (x10 >>> ((22 : Int32).toInt64 &&& 63)))) + (((((((((x0 >>> ((22 : Int32).toInt64 &&& 63)) * r22) + (r25 * (x2 >>> ((22 : Int32).toInt64 &&& 63)))) + ((x4 >>> ((22 : Int32).toInt64 &&& 63)) * r28)) + (r31 * (x6 >>> ((22 : Int32).toInt64 &&& 63)))) + ((x8 >>> ((22 : Int32).toInt64 &&& 63)) * r34)) + (r37 * (x10 >>> ((22 : Int32).toInt64 &&& 63)))) + ((((r4 * r7) + (r10 * r13)) + (r16 * r19)) >>> ((22 : Int32).toInt64 &&& 63))) >>> ((22 : Int32).toInt64 &&& 63))) (0 : Int32)) else (f_N_sign_b192 (((((x0 >>> ((22 : Int32).toInt64 &&& 63)) * (x2 >>> ((22 : Int32).toInt64 &&& 63))) + ((x4 >>> ((22 : Int32).toInt64 &&& 63)) * (x6 >>> ((22 : Int32).toInt64 &&& 63)))) + ((x8 >>> ((22 : Int32).toInt64 &&& 63)) * (x10 >>> ((22 : Int32).toInt64 &&& 63)))) + (((((((((x0 >>> ((22 : Int32).toInt64 &&& 63)) * r22) + (r25 * (x2 >>> ((22 : Int32).toInt64 &&& 63)))) + ((x4 >>> ((22 : Int32).toInt64 &&& 63)) * r28)) + (r31 * (x6 >>> ((22 : Int32).toInt64 &&& 63)))) + ((x8 >>> ((22 : Int32).toInt64 &&& 63)) * r34)) + (r37 * (x10 >>> ((22 : Int32).toInt64 &&& 63)))) + ((((r4 * r7) + (r10 * r13)) + (r16 * r19)) >>> ((22 : Int32).toInt64 &&& 63))) >>> ((22 : Int32).toInt64 &&& 63))) (1 : Int32)))) else (f_N_sign_b192 (((((x0 >>> ((22 : Int32).toInt64 &&& 63)) * (x2 >>> ((22 : Int32).toInt64 &&& 63))) + ((x4 >>> ((22 : Int32).toInt64 &&& 63)) * (x6 >>> ((22 : Int32).toInt64 &&& 63)))) + ((x8 >>> ((22 : Int32).toInt64 &&& 63)) * (x10 >>> ((22 : Int32).toInt64 &&& 63)))) + (((((((((x0 >>> ((22 : Int32).toInt64 &&& 63)) * r22) + (r25 * (x2 >>> ((22 : Int32).toInt64 &&& 63)))) + ((x4 >>> ((22 : Int32).toInt64 &&& 63)) * r28)) + (r31 * (x6 >>> ((22 : Int32).toInt64 &&& 63)))) + ((x8 >>> ((22 : Int32).toInt64 &&& 63)) * r34)) + (r37 * (x10 >>> ((22 : Int32).toInt64 &&& 63)))) + ((((r4 * r7) + (r10 * r13)) + (r16 * r19)) >>> ((22 : Int32).toInt64 &&& 63))) >>> ((22 : Int32).toInt64 &&& 63))) (1 : Int32))))))))))))))))
def f_N_circle (n_xs : Nat → Int32) (n_ys : Nat → Int32) (x1 : Int32) (x2 : Int32) (x3 : Int32) (x4 : Int32) : Option (Int32) := (if ix x1 20 then (if ix x4 20 then (if ix x1 20 then (if ix x4 20 then (if ix x2 20 then (if ix x4 20 then (if ix x2 20 then (if ix x4 20 then (if ix x3 20 then (if ix x4 20 then (if ix x3 20 then (if ix x4 20 then ((f_N_sign ((((n_xs x1.toNatClampNeg) - (n_xs x4.toNatClampNeg)).toInt64 * ((n_xs x1.toNatClampNeg) - (n_xs x4.toNatClampNeg)).toInt64) + (((n_ys x1.toNatClampNeg) - (n_ys x4.toNatClampNeg)).toInt64 * ((n_ys x1.toNatClampNeg) - (n_ys x4.toNatClampNeg)).toInt64)) ((((n_xs x2.toNatClampNeg) - (n_xs x4.toNatClampNeg)).toInt64 * ((n_ys x3.toNatClampNeg) - (n_ys x4.toNatClampNeg)).toInt64) - (((n_ys x2.toNatClampNeg) - (n_ys x4.toNatClampNeg)).toInt64 * ((n_xs x3.toNatClampNeg) - (n_xs x4.toNatClampNeg)).toInt64)) ((((n_xs x2.toNatClampNeg) - (n_xs x4.toNatClampNeg)).toInt64 * ((n_xs x2.toNatClampNeg) - (n_xs x4.toNatClampNeg)).toInt64) + (((n_ys x2.toNatClampNeg) - (n_ys x4.toNatClampNeg)).toInt64 * ((n_ys x2.toNatClampNeg) - (n_ys x4.toNatClampNeg)).toInt64)) ((((n_xs x3.toNatClampNeg) - (n_xs x4.toNatClampNeg)).toInt64 * ((n_ys x1.toNatClampNeg) - (n_ys x4.toNatClampNeg)).toInt64) - (((n_ys x3.toNatClampNeg) - (n_ys x4.toNatClampNeg)).toInt64 * ((n_xs x1.toNatClampNeg) - (n_xs x4.toNatClampNeg)).toInt64)) ((((n_xs x3.toNatClampNeg) - (n_xs x4.toNatClampNeg)).toInt64 * ((n_xs x3.toNatClampNeg) - (n_xs x4.toNatClampNeg)).toInt64) + (((n_ys x3.toNatClampNeg) - (n_ys x4.toNatClampNeg)).toInt64 * ((n_ys x3.toNatClampNeg) - (n_ys x4.toNatClampNeg)).toInt64)) ((((n_xs x1.toNatClampNeg) - (n_xs x4.toNatClampNeg)).toInt64 * ((n_ys x2.toNatClampNeg) - (n_ys x4.toNatClampNeg)).toInt64) - (((n_ys x1.toNatClampNeg) - (n_ys x4.toNatClampNeg)).toInt64 * ((n_xs x2.toNatClampNeg) - (n_xs x4.toNatClampNeg)).toInt64))).bind fun r13 => (some r13)) else none) else none) else none) else none) else none) else none) else none) else none) else none) else none) else none) else none)
def f_N_isTriangle_L61  (n_th : Nat → Int32) (n_xs : Nat → Int32) (n_ys : Nat → Int32) : Nat → Int32 → Int32 → Int32 → Int32 → Option (Int32)
  | 0, _, _, _, _ => none
  | n + 1, x1, x2, x3, x4 => (if (20 : Int32) ≤ x4 then (some (1 : Int32)) else (if ix x4 20 then (if (n_th x4.toNatClampNeg) = 0 then (f_N_isTriangle_L61 n_th n_xs n_ys n x1 x2 x3 (x4 + 1)) else (if x4 = x1 then (f_N_isTriangle_L61 n_th n_xs n_ys n x1 x2 x3 (x4 + 1)) else (if x4 = x2 then (f_N_isTriangle_L61 n_th n_xs n_ys n x1 x2 x3 (x4 + 1)) else (if x4 = x3 then (f_N_isTriangle_L61 n_th n_xs n_ys n x1 x2 x3 (x4 + 1)) else ((f_N_circle n_xs n_ys x1 x2 x3 x4).bind fun r7 => (if 0 < r7 then (some (0 : Int32)) else (if r7 = 0 then ((f_N_earlier n_xs n_ys x4 x1).bind fun r12 => (if r12 = 0 then ((f_N_side n_xs n_ys x2 x3 x4).bind fun r16 => (if 0 ≤ r16 then (f_N_isTriangle_L61 n_th n_xs n_ys n x1 x2 x3 (x4 + 1)) else (some (0 : Int32)))) else (some (0 : Int32)))) else (f_N_isTriangle_L61 n_th n_xs n_ys n x1 x2 x3 (x4 + 1))))))))) else none))
def f_N_isTriangle (n_th : Nat → Int32) (n_xs : Nat → Int32) (n_ys : Nat → Int32) (x1 : Int32) (x2 : Int32) (x3 : Int32) : Option (Int32) := (if ix x1 20 then (if (n_th x1.toNatClampNeg) = 0 then (some (0 : Int32)) else (if ix x2 20 then (if (n_th x2.toNatClampNeg) = 0 then (some (0 : Int32)) else (if ix x3 20 then (if (n_th x3.toNatClampNeg) = 0 then (some (0 : Int32)) else ((f_N_side n_xs n_ys x1 x2 x3).bind fun r26 => (if r26 = (1 : Int32) then ((f_N_earlier n_xs n_ys x1 x2).bind fun r30 => (if r30 = 0 then (some (0 : Int32)) else ((f_N_earlier n_xs n_ys x1 x3).bind fun r34 => (if r34 = 0 then (some (0 : Int32)) else (f_N_isTriangle_L61 n_th n_xs n_ys 600 x1 x2 x3 (0 : Int32)))))) else (some (0 : Int32))))) else none)) else none)) else none)
def f_N_work_L36 (k20 : Int32 → Int32 → (Nat → Int32) → (Nat → Int32) → (Nat → Int32) → Int32 → Option (Int32 × Int32 × (Nat → Int32) × (Nat → Int32) × (Nat → Int32))) (k28 : Int32 → Int32 → (Nat → Int32) → (Nat → Int32) → (Nat → Int32) → Int32 → Int32 → Option (Int32 × Int32 × (Nat → Int32) × (Nat → Int32) × (Nat → Int32))) (n_th : Nat → Int32) (n_xs : Nat → Int32) (n_ys : Nat → Int32) : Nat → Int32 → Int32 → (Nat → Int32) → (Nat → Int32) → (Nat → Int32) → Int32 → Int32 → Int32 → Option (Int32 × Int32 × (Nat → Int32) × (Nat → Int32) × (Nat → Int32))
  | 0, _, _, _, _, _, _, _, _ => none
  | n + 1, n_kn, n_ct, n_a, n_b, n_c, x1, x2, x3 => (if (20 : Int32) ≤ x3 then (k28 n_kn n_ct n_a n_b n_c x1 (x2 + 1)) else (if x1 = x2 then (f_N_work_L36 k20 k28 n_th n_xs n_ys n n_kn n_ct n_a n_b n_c x1 x2 (x3 + 1)) else (if x2 = x3 then (f_N_work_L36 k20 k28 n_th n_xs n_ys n n_kn n_ct n_a n_b n_c x1 x2 (x3 + 1)) else (if x1 = x3 then (f_N_work_L36 k20 k28 n_th n_xs n_ys n n_kn n_ct n_a n_b n_c x1 x2 (x3 + 1)) else ((f_N_isTriangle n_th n_xs n_ys x1 x2 x3).bind fun r5 => (if r5 = 0 then (f_N_work_L36 k20 k28 n_th n_xs n_ys n n_kn n_ct n_a n_b n_c x1 x2 (x3 + 1)) else (if ix n_ct 40 then (if ix n_ct 40 then (if ix n_ct 40 then (f_N_work_L36 k20 k28 n_th n_xs n_ys n n_kn (n_ct + (1 : Int32)) (upd n_a n_ct.toNatClampNeg x1) (upd n_b n_ct.toNatClampNeg x2) (upd n_c n_ct.toNatClampNeg x3) x1 x2 (x3 + 1)) else none) else none) else none)))))))
def f_N_work_L28 (k20 : Int32 → Int32 → (Nat → Int32) → (Nat → Int32) → (Nat → Int32) → Int32 → Option (Int32 × Int32 × (Nat → Int32) × (Nat → Int32) × (Nat → Int32))) (n_th : Nat → Int32) (n_xs : Nat → Int32) (n_ys : Nat → Int32) : Nat → Int32 → Int32 → (Nat → Int32) → (Nat → Int32) → (Nat → Int32) → Int32 → Int32 → Option (Int32 × Int32 × (Nat → Int32) × (Nat → Int32) × (Nat → Int32))
  | 0, _, _, _, _, _, _, _ => none
  | n + 1, n_kn, n_ct, n_a, n_b, n_c, x1, x2 => (if (20 : Int32) ≤ x2 then (k20 n_kn n_ct n_a n_b n_c (x1 + 1)) else (f_N_work_L36 k20 (fun n_kn n_ct n_a n_b n_c x1 x2 => f_N_work_L28 k20 n_th n_xs n_ys n n_kn n_ct n_a n_b n_c x1 x2) n_th n_xs n_ys 600 n_kn n_ct n_a n_b n_c x1 x2 (0 : Int32)))
def f_N_work_L20  (n_th : Nat → Int32) (n_xs : Nat → Int32) (n_ys : Nat → Int32) : Nat → Int32 → Int32 → (Nat → Int32) → (Nat → Int32) → (Nat → Int32) → Int32 → Option (Int32 × Int32 × (Nat → Int32) × (Nat → Int32) × (Nat → Int32))
  | 0, _, _, _, _, _, _ => none
  | n + 1, n_kn, n_ct, n_a, n_b, n_c, x1 => (if (20 : Int32) ≤ x1 then (some (n_kn, n_ct, n_a, n_b, n_c)) else (f_N_work_L28 (fun n_kn n_ct n_a n_b n_c x1 => f_N_work_L20 n_th n_xs n_ys n n_kn n_ct n_a n_b n_c x1) n_th n_xs n_ys 600 n_kn n_ct n_a n_b n_c x1 (0 : Int32)))
def f_N_work (n_th : Nat → Int32) (n_xs : Nat → Int32) (n_ys : Nat → Int32) (n_kn : Int32) (n_ct : Int32) (n_a : Nat → Int32) (n_b : Nat → Int32) (n_c : Nat → Int32) : Option (Int32 × Int32 × (Nat → Int32) × (Nat → Int32) × (Nat → Int32)) := (if n_kn = 0 then (f_N_work_L20 n_th n_xs n_ys 600 (1 : Int32) (0 : Int32) n_a n_b n_c (0 : Int32)) else (some (n_kn, n_ct, n_a, n_b, n_c)))
def f_N_triangles (n_th : Nat → Int32) (n_xs : Nat → Int32) (n_ys : Nat → Int32) (n_kn : Int32) (n_ct : Int32) (n_a : Nat → Int32) (n_b : Nat → Int32) (n_c : Nat → Int32) : Option (Int32 × Int32 × Int32 × (Nat → Int32) × (Nat → Int32) × (Nat → Int32)) := ((f_N_work n_th n_xs n_ys n_kn n_ct n_a n_b n_c).bind fun v6 => (some (v6.2.1, v6.1, v6.2.1, v6.2.2.1, v6.2.2.2.1, v6.2.2.2.2)))
def f_N_triangle (n_th : Nat → Int32) (n_xs : Nat → Int32) (n_ys : Nat → Int32) (n_kn : Int32) (n_ct : Int32) (n_a : Nat → Int32) (n_b : Nat → Int32) (n_c : Nat → Int32) (x1 : Int32) : Option (Int32 × Int32 × Int32 × (Nat → Int32) × (Nat → Int32) × (Nat → Int32)) := ((f_N_work n_th n_xs n_ys n_kn n_ct n_a n_b n_c).bind fun v6 => (if x1 < 0 then (some ((-1 : Int32), v6.1, v6.2.1, v6.2.2.1, v6.2.2.2.1, v6.2.2.2.2)) else (if x1 < v6.2.1 then (if ix x1 40 then (if ix x1 40 then (if ix x1 40 then (some ((((v6.2.2.1 x1.toNatClampNeg) + ((32 : Int32) * (v6.2.2.2.1 x1.toNatClampNeg))) + ((1024 : Int32) * (v6.2.2.2.2 x1.toNatClampNeg))), v6.1, v6.2.1, v6.2.2.1, v6.2.2.2.1, v6.2.2.2.2)) else none) else none) else none) else (some ((-1 : Int32), v6.1, v6.2.1, v6.2.2.1, v6.2.2.2.1, v6.2.2.2.2)))))
def f_N_has (n_a : Nat → Int32) (n_b : Nat → Int32) (n_c : Nat → Int32) (x1 : Int32) (x2 : Int32) : Option (Int32) := (if ix x1 40 then (if (n_a x1.toNatClampNeg) = x2 then (some (1 : Int32)) else (if ix x1 40 then (if (n_b x1.toNatClampNeg) = x2 then (some (1 : Int32)) else (if ix x1 40 then (if (n_c x1.toNatClampNeg) = x2 then (some (1 : Int32)) else (some (0 : Int32))) else none)) else none)) else none)
def f_N_number_L7  (n_th : Nat → Int32) (n_xs : Nat → Int32) (n_ys : Nat → Int32) : Nat → Int32 → Int32 → (Nat → Int32) → (Nat → Int32) → (Nat → Int32) → Int32 → Int32 → Int32 → Int32 → Option (Int32 × Int32 × Int32 × (Nat → Int32) × (Nat → Int32) × (Nat → Int32))
  | 0, _, _, _, _, _, _, _, _, _ => none
  | n + 1, n_kn, n_ct, n_a, n_b, n_c, x1, x2, x3, x4 => (if n_ct ≤ x4 then (some ((-1 : Int32), n_kn, n_ct, n_a, n_b, n_c)) else (if x1 = x2 then (f_N_number_L7 n_th n_xs n_ys n n_kn n_ct n_a n_b n_c x1 x2 x3 (x4 + 1)) else (if x2 = x3 then (f_N_number_L7 n_th n_xs n_ys n n_kn n_ct n_a n_b n_c x1 x2 x3 (x4 + 1)) else (if x1 = x3 then (f_N_number_L7 n_th n_xs n_ys n n_kn n_ct n_a n_b n_c x1 x2 x3 (x4 + 1)) else ((f_N_has n_a n_b n_c x4 x1).bind fun r5 => (if r5 = 0 then (f_N_number_L7 n_th n_xs n_ys n n_kn n_ct n_a n_b n_c x1 x2 x3 (x4 + 1)) else ((f_N_has n_a n_b n_c x4 x2).bind fun r9 => (if r9 = 0 then (f_N_number_L7 n_th n_xs n_ys n n_kn n_ct n_a n_b n_c x1 x2 x3 (x4 + 1)) else ((f_N_has n_a n_b n_c x4 x3).bind fun r13 => (if r13 = 0 then (f_N_number_L7 n_th n_xs n_ys n n_kn n_ct n_a n_b n_c x1 x2 x3 (x4 + 1)) else (some (x4, n_kn, n_ct, n_a, n_b, n_c))))))))))))
def f_N_number (n_th : Nat → Int32) (n_xs : Nat → Int32) (n_ys : Nat → Int32) (n_kn : Int32) (n_ct : Int32) (n_a : Nat → Int32) (n_b : Nat → Int32) (n_c : Nat → Int32) (x1 : Int32) (x2 : Int32) (x3 : Int32) : Option (Int32 × Int32 × Int32 × (Nat → Int32) × (Nat → Int32) × (Nat → Int32)) := ((f_N_work n_th n_xs n_ys n_kn n_ct n_a n_b n_c).bind fun v22 => (f_N_number_L7 n_th n_xs n_ys 600 v22.1 v22.2.1 v22.2.2.1 v22.2.2.2.1 v22.2.2.2.2 x1 x2 x3 (0 : Int32)))
def f_N_across_L99  (n_th : Nat → Int32) (n_xs : Nat → Int32) (n_ys : Nat → Int32) : Nat → Int32 → Int32 → (Nat → Int32) → (Nat → Int32) → (Nat → Int32) → Int32 → Int32 → Int32 → Int32 → Option (Int32 × Int32 × Int32 × (Nat → Int32) × (Nat → Int32) × (Nat → Int32))
  | 0, _, _, _, _, _, _, _, _, _ => none
  | n + 1, n_kn, n_ct, n_a, n_b, n_c, x1, x3, x4, x5 => (if n_ct ≤ x5 then (some ((-1 : Int32), n_kn, n_ct, n_a, n_b, n_c)) else (if x5 = x1 then (f_N_across_L99 n_th n_xs n_ys n n_kn n_ct n_a n_b n_c x1 x3 x4 (x5 + 1)) else ((f_N_has n_a n_b n_c x5 x3).bind fun r3 => (if r3 = 0 then (f_N_across_L99 n_th n_xs n_ys n n_kn n_ct n_a n_b n_c x1 x3 x4 (x5 + 1)) else ((f_N_has n_a n_b n_c x5 x4).bind fun r7 => (if r7 = 0 then (f_N_across_L99 n_th n_xs n_ys n n_kn n_ct n_a n_b n_c x1 x3 x4 (x5 + 1)) else (some (x5, n_kn, n_ct, n_a, n_b, n_c))))))))
def f_N_across_b60  (n_th : Nat → Int32) (n_xs : Nat → Int32) (n_ys : Nat → Int32) (n_kn : Int32) (n_ct : Int32) (n_a : Nat → Int32) (n_b : Nat → Int32) (n_c : Nat → Int32) (x1 : Int32) (x2 : Int32) (z0 : Int32) : Option (Int32 × Int32 × Int32 × (Nat → Int32) × (Nat → Int32) × (Nat → Int32)) := (if x2 = 0 then (if ix x1 40 then (f_N_across_L99 n_th n_xs n_ys 600 n_kn n_ct n_a n_b n_c x1 z0 (n_c x1.toNatClampNeg) (0 : Int32)) else none) else (if x2 = (1 : Int32) then (if ix x1 40 then (f_N_across_L99 n_th n_xs n_ys 600 n_kn n_ct n_a n_b n_c x1 z0 (n_a x1.toNatClampNeg) (0 : Int32)) else none) else (if ix x1 40 then (f_N_across_L99 n_th n_xs n_ys 600 n_kn n_ct n_a n_b n_c x1 z0 (n_b x1.toNatClampNeg) (0 : Int32)) else none)))
def f_N_across (n_th : Nat → Int32) (n_xs : Nat → Int32) (n_ys : Nat → Int32) (n_kn : Int32) (n_ct : Int32) (n_a : Nat → Int32) (n_b : Nat → Int32) (n_c : Nat → Int32) (x1 : Int32) (x2 : Int32) : Option (Int32 × Int32 × Int32 × (Nat → Int32) × (Nat → Int32) × (Nat → Int32)) := ((f_N_work n_th n_xs n_ys n_kn n_ct n_a n_b n_c).bind fun v21 => (if x1 < 0 then (some ((-1 : Int32), v21.1, v21.2.1, v21.2.2.1, v21.2.2.2.1, v21.2.2.2.2)) else (if v21.2.1 ≤ x1 then (some ((-1 : Int32), v21.1, v21.2.1, v21.2.2.1, v21.2.2.2.1, v21.2.2.2.2)) else (if x2 < 0 then (some ((-1 : Int32), v21.1, v21.2.1, v21.2.2.1, v21.2.2.2.1, v21.2.2.2.2)) else (if x2 ≤ (2 : Int32) then (if x2 = 0 then (if ix x1 40 then (f_N_across_b60 n_th n_xs n_ys v21.1 v21.2.1 v21.2.2.1 v21.2.2.2.1 v21.2.2.2.2 x1 x2 (v21.2.2.2.1 x1.toNatClampNeg)) else none) else (if x2 = (1 : Int32) then (if ix x1 40 then (f_N_across_b60 n_th n_xs n_ys v21.1 v21.2.1 v21.2.2.1 v21.2.2.2.1 v21.2.2.2.2 x1 x2 (v21.2.2.2.2 x1.toNatClampNeg)) else none) else (if ix x1 40 then (f_N_across_b60 n_th n_xs n_ys v21.1 v21.2.1 v21.2.2.1 v21.2.2.2.1 v21.2.2.2.2 x1 x2 (v21.2.2.1 x1.toNatClampNeg)) else none))) else (some ((-1 : Int32), v21.1, v21.2.1, v21.2.2.1, v21.2.2.2.1, v21.2.2.2.2)))))))
def f_N_corners_b69 (k22 : Int32 → Int32 → (Nat → Int32) → (Nat → Int32) → (Nat → Int32) → Int32 → Int32 → Int32 → Option (Int32 × Int32 × Int32 × (Nat → Int32) × (Nat → Int32) × (Nat → Int32))) (n_th : Nat → Int32) (n_xs : Nat → Int32) (n_ys : Nat → Int32) (n_kn : Int32) (n_ct : Int32) (n_a : Nat → Int32) (n_b : Nat → Int32) (n_c : Nat → Int32) (x1 : Int32) (x3 : Int32) (z0 : Int32) (z1 : Int32) : Option (Int32 × Int32 × Int32 × (Nat → Int32) × (Nat → Int32) × (Nat → Int32)) := (k22 n_kn n_ct n_a n_b n_c x1 (z0 + z1) (x3 + 1))
def f_N_corners_b68 (k22 : Int32 → Int32 → (Nat → Int32) → (Nat → Int32) → (Nat → Int32) → Int32 → Int32 → Int32 → Option (Int32 × Int32 × Int32 × (Nat → Int32) × (Nat → Int32) × (Nat → Int32))) (n_th : Nat → Int32) (n_xs : Nat → Int32) (n_ys : Nat → Int32) (n_kn : Int32) (n_ct : Int32) (n_a : Nat → Int32) (n_b : Nat → Int32) (n_c : Nat → Int32) (x1 : Int32) (x3 : Int32) (z0 : Int32) : Option (Int32 × Int32 × Int32 × (Nat → Int32) × (Nat → Int32) × (Nat → Int32)) := (f_N_corners_b69 k22 n_th n_xs n_ys n_kn n_ct n_a n_b n_c x1 x3 z0 (0 : Int32))
def f_N_corners_L22  (n_th : Nat → Int32) (n_xs : Nat → Int32) (n_ys : Nat → Int32) : Nat → Int32 → Int32 → (Nat → Int32) → (Nat → Int32) → (Nat → Int32) → Int32 → Int32 → Int32 → Option (Int32 × Int32 × Int32 × (Nat → Int32) × (Nat → Int32) × (Nat → Int32))
  | 0, _, _, _, _, _, _, _, _ => none
  | n + 1, n_kn, n_ct, n_a, n_b, n_c, x1, x2, x3 => (if (20 : Int32) ≤ x3 then (some (x2, n_kn, n_ct, n_a, n_b, n_c)) else (if ix x3 20 then (if (n_th x3.toNatClampNeg) = 0 then (f_N_corners_b68 (fun n_kn n_ct n_a n_b n_c x1 x2 x3 => f_N_corners_L22 n_th n_xs n_ys n n_kn n_ct n_a n_b n_c x1 x2 x3) n_th n_xs n_ys n_kn n_ct n_a n_b n_c x1 x3 x2) else (if ix x1 40 then (if ix x1 40 then (if ix x1 40 then ((f_N_circle n_xs n_ys (n_a x1.toNatClampNeg) (n_b x1.toNatClampNeg) (n_c x1.toNatClampNeg) x3).bind fun r7 => (if r7 = 0 then (f_N_corners_b69 (fun n_kn n_ct n_a n_b n_c x1 x2 x3 => f_N_corners_L22 n_th n_xs n_ys n n_kn n_ct n_a n_b n_c x1 x2 x3) n_th n_xs n_ys n_kn n_ct n_a n_b n_c x1 x3 x2 (1 : Int32)) else (f_N_corners_b68 (fun n_kn n_ct n_a n_b n_c x1 x2 x3 => f_N_corners_L22 n_th n_xs n_ys n n_kn n_ct n_a n_b n_c x1 x2 x3) n_th n_xs n_ys n_kn n_ct n_a n_b n_c x1 x3 x2))) else none) else none) else none)) else none))
def f_N_corners (n_th : Nat → Int32) (n_xs : Nat → Int32) (n_ys : Nat → Int32) (n_kn : Int32) (n_ct : Int32) (n_a : Nat → Int32) (n_b : Nat → Int32) (n_c : Nat → Int32) (x1 : Int32) : Option (Int32 × Int32 × Int32 × (Nat → Int32) × (Nat → Int32) × (Nat → Int32)) := ((f_N_work n_th n_xs n_ys n_kn n_ct n_a n_b n_c).bind fun v16 => (if x1 < 0 then (some ((-1 : Int32), v16.1, v16.2.1, v16.2.2.1, v16.2.2.2.1, v16.2.2.2.2)) else (if x1 < v16.2.1 then (f_N_corners_L22 n_th n_xs n_ys 600 v16.1 v16.2.1 v16.2.2.1 v16.2.2.2.1 v16.2.2.2.2 x1 (0 : Int32) (0 : Int32)) else (some ((-1 : Int32), v16.1, v16.2.1, v16.2.2.1, v16.2.2.2.1, v16.2.2.2.2)))))
def f_N_locate_L16  (n_th : Nat → Int32) (n_xs : Nat → Int32) (n_ys : Nat → Int32) : Nat → Int32 → Int32 → (Nat → Int32) → (Nat → Int32) → (Nat → Int32) → Int32 → Int32 → Int32 → Option (Int32 × Int32 × Int32 × (Nat → Int32) × (Nat → Int32) × (Nat → Int32))
  | 0, _, _, _, _, _, _, _, _ => none
  | n + 1, n_kn, n_ct, n_a, n_b, n_c, x1, x2, x3 => (if n_ct ≤ x3 then (some ((-1 : Int32), n_kn, n_ct, n_a, n_b, n_c)) else (if ix x3 40 then (if ix x3 40 then ((f_N_sideOf n_xs n_ys (n_a x3.toNatClampNeg) (n_b x3.toNatClampNeg) x1 x2).bind fun r4 => (if r4 < 0 then (f_N_locate_L16 n_th n_xs n_ys n n_kn n_ct n_a n_b n_c x1 x2 (x3 + 1)) else (if ix x3 40 then (if ix x3 40 then ((f_N_sideOf n_xs n_ys (n_b x3.toNatClampNeg) (n_c x3.toNatClampNeg) x1 x2).bind fun r10 => (if r10 < 0 then (f_N_locate_L16 n_th n_xs n_ys n n_kn n_ct n_a n_b n_c x1 x2 (x3 + 1)) else (if ix x3 40 then (if ix x3 40 then ((f_N_sideOf n_xs n_ys (n_c x3.toNatClampNeg) (n_a x3.toNatClampNeg) x1 x2).bind fun r16 => (if r16 < 0 then (f_N_locate_L16 n_th n_xs n_ys n n_kn n_ct n_a n_b n_c x1 x2 (x3 + 1)) else (some (x3, n_kn, n_ct, n_a, n_b, n_c)))) else none) else none))) else none) else none))) else none) else none))
def f_N_locate (n_th : Nat → Int32) (n_xs : Nat → Int32) (n_ys : Nat → Int32) (n_kn : Int32) (n_ct : Int32) (n_a : Nat → Int32) (n_b : Nat → Int32) (n_c : Nat → Int32) (x1 : Int32) (x2 : Int32) : Option (Int32 × Int32 × Int32 × (Nat → Int32) × (Nat → Int32) × (Nat → Int32)) := ((f_N_work n_th n_xs n_ys n_kn n_ct n_a n_b n_c).bind fun v25 => ((f_N_outside x1 x2).bind fun r27 => (if r27 = 0 then (f_N_locate_L16 n_th n_xs n_ys 600 v25.1 v25.2.1 v25.2.2.1 v25.2.2.2.1 v25.2.2.2.2 x1 x2 (0 : Int32)) else (some ((-1 : Int32), v25.1, v25.2.1, v25.2.2.1, v25.2.2.2.1, v25.2.2.2.2)))))
def f_N_nearest_b84 (k18 : Int32 → Int32 → Int32 → Int64 → Int32 → Option (Int32)) (n_th : Nat → Int32) (n_xs : Nat → Int32) (n_ys : Nat → Int32) (x1 : Int32) (x2 : Int32) (x6 : Int32) (x11 : Int64) : Option (Int32) := (k18 x1 x2 x6 x11 (x6 + 1))
def f_N_nearest_L18  (n_th : Nat → Int32) (n_xs : Nat → Int32) (n_ys : Nat → Int32) : Nat → Int32 → Int32 → Int32 → Int64 → Int32 → Option (Int32)
  | 0, _, _, _, _, _ => none
  | n + 1, x1, x2, x3, x4, x6 => (if (20 : Int32) ≤ x6 then (some x3) else (if ix x6 20 then (if ix x6 20 then (if ix x6 20 then (if (n_th x6.toNatClampNeg) = 0 then (f_N_nearest_L18 n_th n_xs n_ys n x1 x2 x3 x4 (x6 + 1)) else (if x3 < 0 then (f_N_nearest_b84 (fun x1 x2 x3 x4 x6 => f_N_nearest_L18 n_th n_xs n_ys n x1 x2 x3 x4 x6) n_th n_xs n_ys x1 x2 x6 ((((n_xs x6.toNatClampNeg) - x1).toInt64 * ((n_xs x6.toNatClampNeg) - x1).toInt64) + (((n_ys x6.toNatClampNeg) - x2).toInt64 * ((n_ys x6.toNatClampNeg) - x2).toInt64))) else (if 0 ≤ (lg_cmp ((((n_xs x6.toNatClampNeg) - x1).toInt64 * ((n_xs x6.toNatClampNeg) - x1).toInt64) + (((n_ys x6.toNatClampNeg) - x2).toInt64 * ((n_ys x6.toNatClampNeg) - x2).toInt64)) x4) then (f_N_nearest_L18 n_th n_xs n_ys n x1 x2 x3 x4 (x6 + 1)) else (f_N_nearest_b84 (fun x1 x2 x3 x4 x6 => f_N_nearest_L18 n_th n_xs n_ys n x1 x2 x3 x4 x6) n_th n_xs n_ys x1 x2 x6 ((((n_xs x6.toNatClampNeg) - x1).toInt64 * ((n_xs x6.toNatClampNeg) - x1).toInt64) + (((n_ys x6.toNatClampNeg) - x2).toInt64 * ((n_ys x6.toNatClampNeg) - x2).toInt64)))))) else none) else none) else none))
def f_N_nearest (n_th : Nat → Int32) (n_xs : Nat → Int32) (n_ys : Nat → Int32) (x1 : Int32) (x2 : Int32) : Option (Int32) := ((f_N_outside x1 x2).bind fun r8 => (if r8 = 0 then (f_N_nearest_L18 n_th n_xs n_ys 600 x1 x2 (-1 : Int32) (0 : Int64) (0 : Int32)) else (some (-1 : Int32))))
def f_N_follow_L6  (n_th : Nat → Int32) (n_xs : Nat → Int32) (n_ys : Nat → Int32) (n_a : Nat → Int32) (n_b : Nat → Int32) (n_c : Nat → Int32) : Nat → Int32 → Int32 → Int32 → Int32 → Int32 → Option (Int32)
  | 0, _, _, _, _, _ => none
  | n + 1, x1, x2, x3, x4, x5 => (if (20 : Int32) ≤ x5 then (if x4 = 0 then (some (1 : Int32)) else (some (0 : Int32))) else (if x4 = 0 then (if ix x5 20 then (if (n_th x5.toNatClampNeg) = 0 then (f_N_follow_L6 n_th n_xs n_ys n_a n_b n_c n x1 x2 x3 (0 : Int32) (x5 + 1)) else (if x5 = x2 then (f_N_follow_L6 n_th n_xs n_ys n_a n_b n_c n x1 x2 x3 (0 : Int32) (x5 + 1)) else (if x5 = x3 then (f_N_follow_L6 n_th n_xs n_ys n_a n_b n_c n x1 x2 x3 (0 : Int32) (x5 + 1)) else ((f_N_side n_xs n_ys x2 x3 x5).bind fun r8 => (if 0 ≤ r8 then (f_N_follow_L6 n_th n_xs n_ys n_a n_b n_c n x1 x2 x3 (0 : Int32) (x5 + 1)) else (if ix x1 40 then (if ix x1 40 then (if ix x1 40 then ((f_N_circle n_xs n_ys (n_a x1.toNatClampNeg) (n_b x1.toNatClampNeg) (n_c x1.toNatClampNeg) x5).bind fun r15 => (if r15 = 0 then (f_N_follow_L6 n_th n_xs n_ys n_a n_b n_c n x1 x2 x3 (1 : Int32) (x5 + 1)) else (f_N_follow_L6 n_th n_xs n_ys n_a n_b n_c n x1 x2 x3 (0 : Int32) (x5 + 1)))) else none) else none) else none)))))) else none) else (f_N_follow_L6 n_th n_xs n_ys n_a n_b n_c n x1 x2 x3 (1 : Int32) (x5 + 1))))
def f_N_follow (n_th : Nat → Int32) (n_xs : Nat → Int32) (n_ys : Nat → Int32) (n_a : Nat → Int32) (n_b : Nat → Int32) (n_c : Nat → Int32) (x1 : Int32) (x2 : Int32) (x3 : Int32) : Option (Int32) := (f_N_follow_L6 n_th n_xs n_ys n_a n_b n_c 600 x1 x2 x3 (0 : Int32) (0 : Int32))
def f_N_flatNeighbours_b120  (n_th : Nat → Int32) (n_xs : Nat → Int32) (n_ys : Nat → Int32) (z0 : Int32) (z1 : Int32) : Option (Int32) := (some (z0 + z1))
def f_N_flatNeighbours_b109  (n_th : Nat → Int32) (n_xs : Nat → Int32) (n_ys : Nat → Int32) (x3 : Int32) (z0 : Int32) : Option (Int32) := (if 0 ≤ x3 then (f_N_flatNeighbours_b120 n_th n_xs n_ys z0 ((1 : Int32) <<< (x3 &&& 31))) else (f_N_flatNeighbours_b120 n_th n_xs n_ys z0 (0 : Int32)))
def f_N_flatNeighbours_b60 (k7 : Int32 → Int32 → Int32 → Int32 → Option (Int32)) (n_th : Nat → Int32) (n_xs : Nat → Int32) (n_ys : Nat → Int32) (x1 : Int32) (x3 : Int32) (x4 : Int32) (z0 : Int32) : Option (Int32) := ((f_N_earlier n_xs n_ys x1 x4).bind fun r2 => (if r2 = 0 then (k7 x1 z0 x3 (x4 + 1)) else (if x3 < 0 then (k7 x1 z0 x4 (x4 + 1)) else ((f_N_earlier n_xs n_ys x4 x3).bind fun r7 => (if r7 = 0 then (k7 x1 z0 x3 (x4 + 1)) else (k7 x1 z0 x4 (x4 + 1)))))))
def f_N_flatNeighbours_b59 (k7 : Int32 → Int32 → Int32 → Int32 → Option (Int32)) (n_th : Nat → Int32) (n_xs : Nat → Int32) (n_ys : Nat → Int32) (x1 : Int32) (x2 : Int32) (x3 : Int32) (x4 : Int32) : Option (Int32) := (f_N_flatNeighbours_b60 k7 n_th n_xs n_ys x1 x3 x4 x2)
def f_N_flatNeighbours_L7  (n_th : Nat → Int32) (n_xs : Nat → Int32) (n_ys : Nat → Int32) : Nat → Int32 → Int32 → Int32 → Int32 → Option (Int32)
  | 0, _, _, _, _ => none
  | n + 1, x1, x2, x3, x4 => (if (20 : Int32) ≤ x4 then (if 0 ≤ x2 then (f_N_flatNeighbours_b109 n_th n_xs n_ys x3 ((1 : Int32) <<< (x2 &&& 31))) else (f_N_flatNeighbours_b109 n_th n_xs n_ys x3 (0 : Int32))) else (if ix x4 20 then (if (n_th x4.toNatClampNeg) = 0 then (f_N_flatNeighbours_L7 n_th n_xs n_ys n x1 x2 x3 (x4 + 1)) else (if x4 = x1 then (f_N_flatNeighbours_L7 n_th n_xs n_ys n x1 x2 x3 (x4 + 1)) else ((f_N_earlier n_xs n_ys x4 x1).bind fun r16 => (if r16 = 0 then (f_N_flatNeighbours_b59 (fun x1 x2 x3 x4 => f_N_flatNeighbours_L7 n_th n_xs n_ys n x1 x2 x3 x4) n_th n_xs n_ys x1 x2 x3 x4) else (if x2 < 0 then (f_N_flatNeighbours_b60 (fun x1 x2 x3 x4 => f_N_flatNeighbours_L7 n_th n_xs n_ys n x1 x2 x3 x4) n_th n_xs n_ys x1 x3 x4 x4) else ((f_N_earlier n_xs n_ys x2 x4).bind fun r21 => (if r21 = 0 then (f_N_flatNeighbours_b59 (fun x1 x2 x3 x4 => f_N_flatNeighbours_L7 n_th n_xs n_ys n x1 x2 x3 x4) n_th n_xs n_ys x1 x2 x3 x4) else (f_N_flatNeighbours_b60 (fun x1 x2 x3 x4 => f_N_flatNeighbours_L7 n_th n_xs n_ys n x1 x2 x3 x4) n_th n_xs n_ys x1 x3 x4 x4)))))))) else none))
def f_N_flatNeighbours (n_th : Nat → Int32) (n_xs : Nat → Int32) (n_ys : Nat → Int32) (x1 : Int32) : Option (Int32) := (f_N_flatNeighbours_L7 n_th n_xs n_ys 600 x1 (-1 : Int32) (-1 : Int32) (0 : Int32))
def f_N_link_b46  (n_th : Nat → Int32) (n_xs : Nat → Int32) (n_ys : Nat → Int32) (n_a : Nat → Int32) (n_b : Nat → Int32) (n_c : Nat → Int32) (z0 : Int32) (z1 : Int32) : Option (Int32) := (some (z0 <<< (z1 &&& 31)))
def f_N_link_b16  (n_th : Nat → Int32) (n_xs : Nat → Int32) (n_ys : Nat → Int32) (n_a : Nat → Int32) (n_b : Nat → Int32) (n_c : Nat → Int32) (x1 : Int32) (x2 : Int32) (x3 : Int32) (x4 : Int32) (z0 : Int32) : Option (Int32) := (if z0 = 0 then (some (0 : Int32)) else ((f_N_follow n_th n_xs n_ys n_a n_b n_c x1 x3 x4).bind fun r2 => (if r2 = 0 then (some (0 : Int32)) else (if x3 = x2 then (f_N_link_b46 n_th n_xs n_ys n_a n_b n_c (1 : Int32) x4) else (f_N_link_b46 n_th n_xs n_ys n_a n_b n_c (1 : Int32) x3)))))
def f_N_link (n_th : Nat → Int32) (n_xs : Nat → Int32) (n_ys : Nat → Int32) (n_a : Nat → Int32) (n_b : Nat → Int32) (n_c : Nat → Int32) (x1 : Int32) (x2 : Int32) (x3 : Int32) (x4 : Int32) : Option (Int32) := (if x3 = x2 then (f_N_link_b16 n_th n_xs n_ys n_a n_b n_c x1 x2 x3 x4 (1 : Int32)) else (if x4 = x2 then (f_N_link_b16 n_th n_xs n_ys n_a n_b n_c x1 x2 x3 x4 (1 : Int32)) else (f_N_link_b16 n_th n_xs n_ys n_a n_b n_c x1 x2 x3 x4 (0 : Int32))))
def f_N_neighbours_L31  (n_th : Nat → Int32) (n_xs : Nat → Int32) (n_ys : Nat → Int32) : Nat → Int32 → Int32 → (Nat → Int32) → (Nat → Int32) → (Nat → Int32) → Int32 → Int32 → Int32 → Option (Int32 × Int32 × Int32 × (Nat → Int32) × (Nat → Int32) × (Nat → Int32))
  | 0, _, _, _, _, _, _, _, _ => none
  | n + 1, n_kn, n_ct, n_a, n_b, n_c, x1, x2, x3 => (if n_ct ≤ x3 then (some (x2, n_kn, n_ct, n_a, n_b, n_c)) else (if ix x3 40 then (if ix x3 40 then ((f_N_link n_th n_xs n_ys n_a n_b n_c x3 x1 (n_a x3.toNatClampNeg) (n_b x3.toNatClampNeg)).bind fun r4 => (if ix x3 40 then (if ix x3 40 then ((f_N_link n_th n_xs n_ys n_a n_b n_c x3 x1 (n_b x3.toNatClampNeg) (n_c x3.toNatClampNeg)).bind fun r9 => (if ix x3 40 then (if ix x3 40 then ((f_N_link n_th n_xs n_ys n_a n_b n_c x3 x1 (n_c x3.toNatClampNeg) (n_a x3.toNatClampNeg)).bind fun r14 => (f_N_neighbours_L31 n_th n_xs n_ys n n_kn n_ct n_a n_b n_c x1 (((x2 ||| r4) ||| r9) ||| r14) (x3 + 1))) else none) else none)) else none) else none)) else none) else none))
def f_N_neighbours (n_th : Nat → Int32) (n_xs : Nat → Int32) (n_ys : Nat → Int32) (n_kn : Int32) (n_ct : Int32) (n_a : Nat → Int32) (n_b : Nat → Int32) (n_c : Nat → Int32) (x1 : Int32) : Option (Int32 × Int32 × Int32 × (Nat → Int32) × (Nat → Int32) × (Nat → Int32)) := ((f_N_is n_th x1).bind fun r17 => (if r17 = 0 then (some ((-1 : Int32), n_kn, n_ct, n_a, n_b, n_c)) else ((f_N_work n_th n_xs n_ys n_kn n_ct n_a n_b n_c).bind fun v26 => (if v26.2.1 = 0 then ((f_N_flatNeighbours n_th n_xs n_ys x1).bind fun r29 => (some (r29, v26.1, v26.2.1, v26.2.2.1, v26.2.2.2.1, v26.2.2.2.2))) else (f_N_neighbours_L31 n_th n_xs n_ys 600 v26.1 v26.2.1 v26.2.2.1 v26.2.2.2.1 v26.2.2.2.2 x1 (0 : Int32) (0 : Int32))))))
def f_N_earliest_L4  (n_th : Nat → Int32) (n_xs : Nat → Int32) (n_ys : Nat → Int32) : Nat → Int32 → Int32 → Option (Int32)
  | 0, _, _ => none
  | n + 1, x1, x2 => (if (20 : Int32) ≤ x2 then (some x1) else (if ix x2 20 then (if (n_th x2.toNatClampNeg) = 0 then (f_N_earliest_L4 n_th n_xs n_ys n x1 (x2 + 1)) else (if x1 < 0 then (f_N_earliest_L4 n_th n_xs n_ys n x2 (x2 + 1)) else ((f_N_earlier n_xs n_ys x2 x1).bind fun r5 => (if r5 = 0 then (f_N_earliest_L4 n_th n_xs n_ys n x1 (x2 + 1)) else (f_N_earliest_L4 n_th n_xs n_ys n x2 (x2 + 1)))))) else none))
def f_N_earliest (n_th : Nat → Int32) (n_xs : Nat → Int32) (n_ys : Nat → Int32) : Option (Int32) := (f_N_earliest_L4 n_th n_xs n_ys 600 (-1 : Int32) (0 : Int32))
def f_N_distance (n_xs : Nat → Int32) (n_ys : Nat → Int32) (x1 : Int32) (x2 : Int32) : Option (Int64) := (if ix x1 20 then (if ix x2 20 then (if ix x1 20 then (if ix x2 20 then (some ((((n_xs x1.toNatClampNeg) - (n_xs x2.toNatClampNeg)).toInt64 * ((n_xs x1.toNatClampNeg) - (n_xs x2.toNatClampNeg)).toInt64) + (((n_ys x1.toNatClampNeg) - (n_ys x2.toNatClampNeg)).toInt64 * ((n_ys x1.toNatClampNeg) - (n_ys x2.toNatClampNeg)).toInt64))) else none) else none) else none) else none)
def f_N_onward_b80 (k4 : Int32 → Int32 → Int32 → Option (Int32)) (n_th : Nat → Int32) (n_xs : Nat → Int32) (n_ys : Nat → Int32) (x1 : Int32) (x2 : Int32) (x3 : Int32) (x4 : Int32) : Option (Int32) := (if x4 = 0 then (k4 x1 x2 (x3 + 1)) else (if x2 < 0 then (k4 x1 x3 (x3 + 1)) else ((f_N_distance n_xs n_ys x1 x3).bind fun r3 => ((f_N_distance n_xs n_ys x1 x2).bind fun r6 => (if 0 ≤ (lg_cmp r3 r6) then (k4 x1 x2 (x3 + 1)) else (k4 x1 x3 (x3 + 1)))))))
def f_N_onward_L34 (k4 : Int32 → Int32 → Int32 → Option (Int32)) (n_th : Nat → Int32) (n_xs : Nat → Int32) (n_ys : Nat → Int32) : Nat → Int32 → Int32 → Int32 → Int32 → Int32 → Option (Int32)
  | 0, _, _, _, _, _ => none
  | n + 1, x1, x2, x3, x4, x5 => (if (20 : Int32) ≤ x5 then (f_N_onward_b80 k4 n_th n_xs n_ys x1 x2 x3 x4) else (if x4 = 0 then (f_N_onward_b80 k4 n_th n_xs n_ys x1 x2 x3 x4) else (if ix x5 20 then (if (n_th x5.toNatClampNeg) = 0 then (f_N_onward_L34 k4 n_th n_xs n_ys n x1 x2 x3 (1 : Int32) (x5 + 1)) else ((f_N_side n_xs n_ys x1 x3 x5).bind fun r14 => (if r14 < 0 then (f_N_onward_L34 k4 n_th n_xs n_ys n x1 x2 x3 (0 : Int32) (x5 + 1)) else (f_N_onward_L34 k4 n_th n_xs n_ys n x1 x2 x3 (1 : Int32) (x5 + 1))))) else none)))
def f_N_onward_L4  (n_th : Nat → Int32) (n_xs : Nat → Int32) (n_ys : Nat → Int32) : Nat → Int32 → Int32 → Int32 → Option (Int32)
  | 0, _, _, _ => none
  | n + 1, x1, x2, x3 => (if (20 : Int32) ≤ x3 then (some x2) else (if ix x3 20 then (if (n_th x3.toNatClampNeg) = 0 then (f_N_onward_L34 (fun x1 x2 x3 => f_N_onward_L4 n_th n_xs n_ys n x1 x2 x3) n_th n_xs n_ys 600 x1 x2 x3 (0 : Int32) (0 : Int32)) else (if x3 = x1 then (f_N_onward_L34 (fun x1 x2 x3 => f_N_onward_L4 n_th n_xs n_ys n x1 x2 x3) n_th n_xs n_ys 600 x1 x2 x3 (0 : Int32) (0 : Int32)) else (f_N_onward_L34 (fun x1 x2 x3 => f_N_onward_L4 n_th n_xs n_ys n x1 x2 x3) n_th n_xs n_ys 600 x1 x2 x3 (1 : Int32) (0 : Int32)))) else none))
def f_N_onward (n_th : Nat → Int32) (n_xs : Nat → Int32) (n_ys : Nat → Int32) (x1 : Int32) : Option (Int32) := (f_N_onward_L4 n_th n_xs n_ys 600 x1 (-1 : Int32) (0 : Int32))
def f_N_later_L4  (n_th : Nat → Int32) (n_xs : Nat → Int32) (n_ys : Nat → Int32) : Nat → Int32 → Int32 → Int32 → Option (Int32)
  | 0, _, _, _ => none
  | n + 1, x1, x2, x3 => (if (20 : Int32) ≤ x3 then (some x2) else (if ix x3 20 then (if (n_th x3.toNatClampNeg) = 0 then (f_N_later_L4 n_th n_xs n_ys n x1 x2 (x3 + 1)) else ((f_N_earlier n_xs n_ys x1 x3).bind fun r4 => (if r4 = 0 then (f_N_later_L4 n_th n_xs n_ys n x1 x2 (x3 + 1)) else (if x2 < 0 then (f_N_later_L4 n_th n_xs n_ys n x1 x3 (x3 + 1)) else ((f_N_earlier n_xs n_ys x3 x2).bind fun r9 => (if r9 = 0 then (f_N_later_L4 n_th n_xs n_ys n x1 x2 (x3 + 1)) else (f_N_later_L4 n_th n_xs n_ys n x1 x3 (x3 + 1)))))))) else none))
def f_N_later (n_th : Nat → Int32) (n_xs : Nat → Int32) (n_ys : Nat → Int32) (x1 : Int32) : Option (Int32) := (f_N_later_L4 n_th n_xs n_ys 600 x1 (-1 : Int32) (0 : Int32))
def f_N_goRound_b69 (k16 : Int32 → Int32 → (Nat → Int32) → (Nat → Int32) → (Nat → Int32) → Int32 → (Nat → Int32) → Int32 → Int32 → Option (Int32 × Int32 × (Nat → Int32) × (Nat → Int32) × (Nat → Int32) × Int32 × (Nat → Int32))) (n_th : Nat → Int32) (n_xs : Nat → Int32) (n_ys : Nat → Int32) (n_kn : Int32) (n_ct : Int32) (n_a : Nat → Int32) (n_b : Nat → Int32) (n_c : Nat → Int32) (n_rd : Int32) (n_ed : Nat → Int32) (x1 : Int32) (z0 : Int32) : Option (Int32 × Int32 × (Nat → Int32) × (Nat → Int32) × (Nat → Int32) × Int32 × (Nat → Int32)) := (if z0 = x1 then (k16 n_kn n_ct n_a n_b n_c n_rd n_ed x1 (-1 : Int32)) else (k16 n_kn n_ct n_a n_b n_c n_rd n_ed x1 z0))
def f_N_goRound_L16  (n_th : Nat → Int32) (n_xs : Nat → Int32) (n_ys : Nat → Int32) : Nat → Int32 → Int32 → (Nat → Int32) → (Nat → Int32) → (Nat → Int32) → Int32 → (Nat → Int32) → Int32 → Int32 → Option (Int32 × Int32 × (Nat → Int32) × (Nat → Int32) × (Nat → Int32) × Int32 × (Nat → Int32))
  | 0, _, _, _, _, _, _, _, _, _ => none
  | n + 1, n_kn, n_ct, n_a, n_b, n_c, n_rd, n_ed, x1, x2 => (if x2 < 0 then (some (n_kn, n_ct, n_a, n_b, n_c, n_rd, n_ed)) else (if (20 : Int32) ≤ n_rd then (some (n_kn, n_ct, n_a, n_b, n_c, n_rd, n_ed)) else (if ix n_rd 20 then (if n_ct = 0 then ((f_N_later n_th n_xs n_ys x2).bind fun r9 => (f_N_goRound_b69 (fun n_kn n_ct n_a n_b n_c n_rd n_ed x1 x2 => f_N_goRound_L16 n_th n_xs n_ys n n_kn n_ct n_a n_b n_c n_rd n_ed x1 x2) n_th n_xs n_ys n_kn n_ct n_a n_b n_c (n_rd + (1 : Int32)) (upd n_ed n_rd.toNatClampNeg x2) x1 r9)) else ((f_N_onward n_th n_xs n_ys x2).bind fun r6 => (f_N_goRound_b69 (fun n_kn n_ct n_a n_b n_c n_rd n_ed x1 x2 => f_N_goRound_L16 n_th n_xs n_ys n n_kn n_ct n_a n_b n_c n_rd n_ed x1 x2) n_th n_xs n_ys n_kn n_ct n_a n_b n_c (n_rd + (1 : Int32)) (upd n_ed n_rd.toNatClampNeg x2) x1 r6))) else none)))
def f_N_goRound (n_th : Nat → Int32) (n_xs : Nat → Int32) (n_ys : Nat → Int32) (n_kn : Int32) (n_ct : Int32) (n_a : Nat → Int32) (n_b : Nat → Int32) (n_c : Nat → Int32) (n_rd : Int32) (n_ed : Nat → Int32) : Option (Int32 × Int32 × (Nat → Int32) × (Nat → Int32) × (Nat → Int32) × Int32 × (Nat → Int32)) := ((f_N_work n_th n_xs n_ys n_kn n_ct n_a n_b n_c).bind fun v17 => ((f_N_earliest n_th n_xs n_ys).bind fun r19 => (f_N_goRound_L16 n_th n_xs n_ys 600 v17.1 v17.2.1 v17.2.2.1 v17.2.2.2.1 v17.2.2.2.2 (0 : Int32) n_ed r19 r19)))
def f_N_boundary (n_th : Nat → Int32) (n_xs : Nat → Int32) (n_ys : Nat → Int32) (n_kn : Int32) (n_ct : Int32) (n_a : Nat → Int32) (n_b : Nat → Int32) (n_c : Nat → Int32) (n_rd : Int32) (n_ed : Nat → Int32) (x1 : Int32) : Option (Int32 × Int32 × Int32 × (Nat → Int32) × (Nat → Int32) × (Nat → Int32) × Int32 × (Nat → Int32)) := ((f_N_goRound n_th n_xs n_ys n_kn n_ct n_a n_b n_c n_rd n_ed).bind fun v8 => (if x1 < 0 then (some ((-1 : Int32), v8.1, v8.2.1, v8.2.2.1, v8.2.2.2.1, v8.2.2.2.2.1, v8.2.2.2.2.2.1, v8.2.2.2.2.2.2)) else (if x1 < v8.2.2.2.2.2.1 then (if ix x1 20 then (some ((v8.2.2.2.2.2.2 x1.toNatClampNeg), v8.1, v8.2.1, v8.2.2.1, v8.2.2.2.1, v8.2.2.2.2.1, v8.2.2.2.2.2.1, v8.2.2.2.2.2.2)) else none) else (some ((-1 : Int32), v8.1, v8.2.1, v8.2.2.1, v8.2.2.2.1, v8.2.2.2.2.1, v8.2.2.2.2.2.1, v8.2.2.2.2.2.2)))))
def f_N_inside (n_th : Nat → Int32) (n_xs : Nat → Int32) (n_ys : Nat → Int32) (x1 : Int32) (x2 : Int32) (x3 : Int32) (x4 : Int32) : Option (Int32) := ((f_N_is n_th x1).bind fun r1 => (if r1 = 0 then (some (2 : Int32)) else ((f_N_is n_th x2).bind fun r5 => (if r5 = 0 then (some (2 : Int32)) else ((f_N_is n_th x3).bind fun r9 => (if r9 = 0 then (some (2 : Int32)) else ((f_N_is n_th x4).bind fun r13 => (if r13 = 0 then (some (2 : Int32)) else ((f_N_side n_xs n_ys x1 x2 x3).bind fun r17 => (if r17 = 0 then (some (2 : Int32)) else ((f_N_side n_xs n_ys x1 x2 x3).bind fun r21 => (if r21 ≤ 0 then ((f_N_circle n_xs n_ys x1 x3 x2 x4).bind fun r25 => (some r25)) else ((f_N_circle n_xs n_ys x1 x2 x3 x4).bind fun r28 => (some r28))))))))))))))
def f_N_area_L8  (n_th : Nat → Int32) (n_xs : Nat → Int32) (n_ys : Nat → Int32) : Nat → Int32 → Int32 → (Nat → Int32) → (Nat → Int32) → (Nat → Int32) → Int32 → (Nat → Int32) → Int64 → Int32 → Option (Int64 × Int32 × Int32 × (Nat → Int32) × (Nat → Int32) × (Nat → Int32) × Int32 × (Nat → Int32))
  | 0, _, _, _, _, _, _, _, _, _ => none
  | n + 1, n_kn, n_ct, n_a, n_b, n_c, n_rd, n_ed, x1, x3 => (if n_rd ≤ x3 then (if n_ct = 0 then (some ((0 : Int64), n_kn, n_ct, n_a, n_b, n_c, n_rd, n_ed)) else (some (x1, n_kn, n_ct, n_a, n_b, n_c, n_rd, n_ed))) else (if ix x3 20 then (if n_rd = 0 then none else (if ix ((x3 + (1 : Int32)) - (x3 + (1 : Int32)) / n_rd * n_rd) 20 then (if ix (n_ed x3.toNatClampNeg) 20 then (if ix (n_ed ((x3 + (1 : Int32)) - (x3 + (1 : Int32)) / n_rd * n_rd).toNatClampNeg) 20 then (if ix (n_ed ((x3 + (1 : Int32)) - (x3 + (1 : Int32)) / n_rd * n_rd).toNatClampNeg) 20 then (if ix (n_ed x3.toNatClampNeg) 20 then (f_N_area_L8 n_th n_xs n_ys n n_kn n_ct n_a n_b n_c n_rd n_ed ((x1 + ((n_xs (n_ed x3.toNatClampNeg).toNatClampNeg).toInt64 * (n_ys (n_ed ((x3 + (1 : Int32)) - (x3 + (1 : Int32)) / n_rd * n_rd).toNatClampNeg).toNatClampNeg).toInt64)) - ((n_xs (n_ed ((x3 + (1 : Int32)) - (x3 + (1 : Int32)) / n_rd * n_rd).toNatClampNeg).toNatClampNeg).toInt64 * (n_ys (n_ed x3.toNatClampNeg).toNatClampNeg).toInt64)) (x3 + 1)) else none) else none) else none) else none) else none)) else none))
def f_N_area (n_th : Nat → Int32) (n_xs : Nat → Int32) (n_ys : Nat → Int32) (n_kn : Int32) (n_ct : Int32) (n_a : Nat → Int32) (n_b : Nat → Int32) (n_c : Nat → Int32) (n_rd : Int32) (n_ed : Nat → Int32) : Option (Int64 × Int32 × Int32 × (Nat → Int32) × (Nat → Int32) × (Nat → Int32) × Int32 × (Nat → Int32)) := ((f_N_goRound n_th n_xs n_ys n_kn n_ct n_a n_b n_c n_rd n_ed).bind fun v17 => (f_N_area_L8 n_th n_xs n_ys 600 v17.1 v17.2.1 v17.2.2.1 v17.2.2.2.1 v17.2.2.2.2.1 v17.2.2.2.2.2.1 v17.2.2.2.2.2.2 (0 : Int64) (0 : Int32)))
end
