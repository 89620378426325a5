/-! Names: classes, fields, methods; the words that may be used; written by program (wip/gen). -/
abbrev R_F : String := "FannedSites"
abbrev R_P : String := "FannedSites$Points"
abbrev R_O : String := "FannedSites$Outline"
abbrev R_M : String := "FannedSites$Mesh"
abbrev R_N : String := "FannedSitesModel"
abbrev R_J : String := "java/util/Arrays"
abbrev R_L : String := "FannedSitesLaw"
def T_F : u_T := fun k => match k with
  | 0 => ("FannedSites", "points", "LFannedSites$Points;", true)
  | 1 => ("FannedSites", "outline", "LFannedSites$Outline;", true)
  | 2 => ("FannedSites", "mesh", "LFannedSites$Mesh;", true)
  | _ => ("FannedSites", "stale", "Z", false)
def ty_F : Nat → FieldType := fun k => match k with
  | 0 => .object "FannedSites$Points"
  | 1 => .object "FannedSites$Outline"
  | 2 => .object "FannedSites$Mesh"
  | _ => .boolean
abbrev ws_F : List Cond := u_ws R_F T_F 4
theorem nok_F : ∀ a, a < 4 → ∀ b, b < 4 → a ≠ b → (T_F a).2.1 ≠ (T_F b).2.1 := by decide +kernel
theorem tok_F : ∀ k, k < 4 → parseFieldDescriptor (T_F k).2.2.1 = some (ty_F k) := by decide +kernel
def T_P : u_T := fun k => match k with
  | 0 => ("FannedSites$Points", "xs", "[I", true)
  | 1 => ("FannedSites$Points", "ys", "[I", true)
  | 2 => ("FannedSites$Points", "taken", "[Z", true)
  | 3 => ("FannedSites$Points", "order", "[I", true)
  | _ => ("FannedSites$Points", "size", "I", false)
def ty_P : Nat → FieldType := fun k => match k with
  | 0 => .array .int
  | 1 => .array .int
  | 2 => .array .boolean
  | 3 => .array .int
  | _ => .int
abbrev ws_P : List Cond := u_ws R_P T_P 5
theorem nok_P : ∀ a, a < 5 → ∀ b, b < 5 → a ≠ b → (T_P a).2.1 ≠ (T_P b).2.1 := by decide +kernel
theorem tok_P : ∀ k, k < 5 → parseFieldDescriptor (T_P k).2.2.1 = some (ty_P k) := by decide +kernel
def T_O : u_T := fun k => match k with
  | 0 => ("FannedSites$Outline", "row", "[I", true)
  | 1 => ("FannedSites$Outline", "size", "I", false)
  | _ => ("FannedSites$Outline", "flat", "Z", false)
def ty_O : Nat → FieldType := fun k => match k with
  | 0 => .array .int
  | 1 => .int
  | _ => .boolean
abbrev ws_O : List Cond := u_ws R_O T_O 3
theorem nok_O : ∀ a, a < 3 → ∀ b, b < 3 → a ≠ b → (T_O a).2.1 ≠ (T_O b).2.1 := by decide +kernel
theorem tok_O : ∀ k, k < 3 → parseFieldDescriptor (T_O k).2.2.1 = some (ty_O k) := by decide +kernel
def T_M : u_T := fun k => match k with
  | 0 => ("FannedSites$Mesh", "keys", "[I", true)
  | 1 => ("FannedSites$Mesh", "faceSizes", "[I", true)
  | 2 => ("FannedSites$Mesh", "size", "I", false)
  | 3 => ("FannedSites$Mesh", "links", "[I", true)
  | 4 => ("FannedSites$Mesh", "waiting", "[I", true)
  | 5 => ("FannedSites$Mesh", "waitingSize", "I", false)
  | 6 => ("FannedSites$Mesh", "ring", "[I", true)
  | _ => ("FannedSites$Mesh", "ringSize", "I", false)
def ty_M : Nat → FieldType := fun k => match k with
  | 0 => .array .int
  | 1 => .array .int
  | 2 => .int
  | 3 => .array .int
  | 4 => .array .int
  | 5 => .int
  | 6 => .array .int
  | _ => .int
abbrev ws_M : List Cond := u_ws R_M T_M 8
theorem nok_M : ∀ a, a < 8 → ∀ b, b < 8 → a ≠ b → (T_M a).2.1 ≠ (T_M b).2.1 := by decide +kernel
theorem tok_M : ∀ k, k < 8 → parseFieldDescriptor (T_M k).2.2.1 = some (ty_M k) := by decide +kernel
def T_N : u_T := fun k => match k with
  | 0 => ("FannedSitesModel", "there", "[Z", true)
  | 1 => ("FannedSitesModel", "xs", "[I", true)
  | 2 => ("FannedSitesModel", "ys", "[I", true)
  | 3 => ("FannedSitesModel", "known", "Z", false)
  | 4 => ("FannedSitesModel", "count", "I", false)
  | 5 => ("FannedSitesModel", "first", "[I", true)
  | 6 => ("FannedSitesModel", "second", "[I", true)
  | 7 => ("FannedSitesModel", "third", "[I", true)
  | 8 => ("FannedSitesModel", "round", "I", false)
  | _ => ("FannedSitesModel", "edge", "[I", true)
def ty_N : Nat → FieldType := fun k => match k with
  | 0 => .array .boolean
  | 1 => .array .int
  | 2 => .array .int
  | 3 => .boolean
  | 4 => .int
  | 5 => .array .int
  | 6 => .array .int
  | 7 => .array .int
  | 8 => .int
  | _ => .array .int
abbrev ws_N : List Cond := u_ws R_N T_N 10
theorem nok_N : ∀ a, a < 10 → ∀ b, b < 10 → a ≠ b → (T_N a).2.1 ≠ (T_N b).2.1 := by decide +kernel
theorem tok_N : ∀ k, k < 10 → parseFieldDescriptor (T_N k).2.2.1 = some (ty_N k) := by decide +kernel
abbrev vwCl : List vw_C := [(R_F, T_F, 4), (R_P, T_P, 5), (R_O, T_O, 3), (R_M, T_M, 8), (R_N, T_N, 10)]
/-- the tables' words that a callee may keep -/
def BIG : List Cond := lw_tbl.filter goodWord
theorem big_of {w : Cond} (i : Nat) (h : tables_1[i]? = some w) (hg : goodWord w = true) : w ∈ BIG := List.mem_filter.mpr ⟨List.mem_append_right _ (List.mem_of_getElem? h), hg⟩
theorem big_pr {w : Cond} (i : Nat) (h : (k2_sels lw_privs)[i]? = some w) (hg : goodWord w = true) : w ∈ BIG := List.mem_filter.mpr ⟨List.mem_append_left _ (List.mem_of_getElem? h), hg⟩
theorem big_good {w : Cond} (h : w ∈ BIG) : w ∈ BIG ∧ ((w.onTables && w.keeps) = true ∨ ∃ ty, w = .arrayClass ty) := ⟨h, good_of_word (List.mem_filter.mp h).2⟩
theorem gd_N {y : MethodName} {b : ByteArray} {n : Nat} {r : Option FieldType} (h5 : Cond.code y b n r ∈ BIG) : GoodIn BIG (Cond.code y b n r :: BIG) := by
  intro w hw
  rcases List.mem_cons.mp hw with rfl | h
  · exact big_good h5
  · exact big_good h
theorem gd_V {own C : String} {idx : Nat} {y : MethodName} {b : ByteArray} {n : Nat} {r : Option FieldType} (h1 : Cond.methodLink own idx y ∈ BIG) (h2 : Cond.instanceMethod y ∈ BIG) (h3 : Cond.selects C y y ∈ BIG) (h4 : Cond.initialized C ∈ BIG) (h5 : Cond.code y b n r ∈ BIG) : GoodIn BIG (wsV own idx C y (Cond.code y b n r :: BIG)) := by
  intro w hw
  unfold wsV at hw
  rcases List.mem_append.mp hw with h | h
  · simp only [List.mem_cons, List.not_mem_nil, or_false] at h
    rcases h with rfl | rfl | rfl | rfl
    · exact big_good h1
    · exact big_good h2
    · exact big_good h3
    · exact big_good h4
  · exact gd_N h5 w h
theorem gd_S {own : String} {idx : Nat} {y : MethodName} {b : ByteArray} {n : Nat} {r : Option FieldType} (h1 : Cond.methodLink own idx y ∈ BIG) (h2 : Cond.static y ∈ BIG) (h4 : Cond.initialized y.cls ∈ BIG) (h5 : Cond.code y b n r ∈ BIG) : GoodIn BIG (va_wsS own idx y (Cond.code y b n r :: BIG)) := by
  intro w hw
  unfold va_wsS at hw
  rcases List.mem_append.mp hw with h | h
  · simp only [List.mem_cons, List.not_mem_nil, or_false] at h
    rcases h with rfl | rfl | rfl
    · exact big_good h1
    · exact big_good h2
    · exact big_good h4
  · exact gd_N h5 w h
def nws : List Cond := [.methodLinkNest "FannedSites" 11 ⟨"FannedSites$Points", "<init>", "()V"⟩ "FannedSites", .methodLinkNest "FannedSites" 18 ⟨"FannedSites$Outline", "<init>", "()V"⟩ "FannedSites", .methodLinkNest "FannedSites" 25 ⟨"FannedSites$Mesh", "<init>", "()V"⟩ "FannedSites", .methodLinkNest "FannedSites$Points" 37 ⟨"FannedSites", "sign", "(J)I"⟩ "FannedSites"]
theorem nws_form : ∀ w ∈ nws, ∃ (a : String) (i : Nat) (x : MethodName) (h : String), w = .methodLinkNest a i x h := by
  intro w hw
  simp only [nws, List.mem_cons, List.not_mem_nil, or_false] at hw
  rcases hw with rfl | rfl | rfl | rfl <;> exact ⟨_, _, _, _, rfl⟩
abbrev b_F_init : ByteArray := prog_1_method_1_code
def y_F_init : MethodName := ⟨R_F, "<init>", "()V"⟩
abbrev w_F_init : List Cond := .code y_F_init b_F_init 1 none :: BIG
theorem hd_F_init : y_F_init.cls ≠ "java/lang/invoke/MethodHandle" ∧ y_F_init.cls ≠ "java/lang/invoke/VarHandle" ∧ (parseMethodDescriptor y_F_init.desc).map (fun d => d.parameters.length) = some 0 := by decide +kernel
abbrev b_F_insert : ByteArray := prog_1_method_2_code
def y_F_insert : MethodName := ⟨R_F, "insert", "(II)I"⟩
abbrev w_F_insert : List Cond := .code y_F_insert b_F_insert 4 (some .int) :: BIG
theorem hd_F_insert : y_F_insert.cls ≠ "java/lang/invoke/MethodHandle" ∧ y_F_insert.cls ≠ "java/lang/invoke/VarHandle" ∧ (parseMethodDescriptor y_F_insert.desc).map (fun d => d.parameters.length) = some 2 := by decide +kernel
abbrev b_F_remove : ByteArray := prog_1_method_3_code
def y_F_remove : MethodName := ⟨R_F, "remove", "(I)Z"⟩
abbrev w_F_remove : List Cond := .code y_F_remove b_F_remove 2 (some .boolean) :: BIG
theorem hd_F_remove : y_F_remove.cls ≠ "java/lang/invoke/MethodHandle" ∧ y_F_remove.cls ≠ "java/lang/invoke/VarHandle" ∧ (parseMethodDescriptor y_F_remove.desc).map (fun d => d.parameters.length) = some 1 := by decide +kernel
abbrev b_F_move : ByteArray := prog_1_method_4_code
def y_F_move : MethodName := ⟨R_F, "move", "(III)I"⟩
abbrev w_F_move : List Cond := .code y_F_move b_F_move 5 (some .int) :: BIG
theorem hd_F_move : y_F_move.cls ≠ "java/lang/invoke/MethodHandle" ∧ y_F_move.cls ≠ "java/lang/invoke/VarHandle" ∧ (parseMethodDescriptor y_F_move.desc).map (fun d => d.parameters.length) = some 3 := by decide +kernel
abbrev b_F_sites : ByteArray := prog_1_method_5_code
def y_F_sites : MethodName := ⟨R_F, "sites", "()I"⟩
abbrev w_F_sites : List Cond := .code y_F_sites b_F_sites 1 (some .int) :: BIG
theorem hd_F_sites : y_F_sites.cls ≠ "java/lang/invoke/MethodHandle" ∧ y_F_sites.cls ≠ "java/lang/invoke/VarHandle" ∧ (parseMethodDescriptor y_F_sites.desc).map (fun d => d.parameters.length) = some 0 := by decide +kernel
abbrev b_F_coordinate : ByteArray := prog_1_method_6_code
def y_F_coordinate : MethodName := ⟨R_F, "coordinate", "(II)I"⟩
abbrev w_F_coordinate : List Cond := .code y_F_coordinate b_F_coordinate 3 (some .int) :: BIG
theorem hd_F_coordinate : y_F_coordinate.cls ≠ "java/lang/invoke/MethodHandle" ∧ y_F_coordinate.cls ≠ "java/lang/invoke/VarHandle" ∧ (parseMethodDescriptor y_F_coordinate.desc).map (fun d => d.parameters.length) = some 2 := by decide +kernel
abbrev b_F_triangles : ByteArray := prog_1_method_7_code
def y_F_triangles : MethodName := ⟨R_F, "triangles", "()I"⟩
abbrev w_F_triangles : List Cond := .code y_F_triangles b_F_triangles 1 (some .int) :: BIG
theorem hd_F_triangles : y_F_triangles.cls ≠ "java/lang/invoke/MethodHandle" ∧ y_F_triangles.cls ≠ "java/lang/invoke/VarHandle" ∧ (parseMethodDescriptor y_F_triangles.desc).map (fun d => d.parameters.length) = some 0 := by decide +kernel
abbrev b_F_triangle : ByteArray := prog_1_method_8_code
def y_F_triangle : MethodName := ⟨R_F, "triangle", "(I)I"⟩
abbrev w_F_triangle : List Cond := .code y_F_triangle b_F_triangle 2 (some .int) :: BIG
theorem hd_F_triangle : y_F_triangle.cls ≠ "java/lang/invoke/MethodHandle" ∧ y_F_triangle.cls ≠ "java/lang/invoke/VarHandle" ∧ (parseMethodDescriptor y_F_triangle.desc).map (fun d => d.parameters.length) = some 1 := by decide +kernel
abbrev b_F_number : ByteArray := prog_1_method_9_code
def y_F_number : MethodName := ⟨R_F, "number", "(III)I"⟩
abbrev w_F_number : List Cond := .code y_F_number b_F_number 6 (some .int) :: BIG
theorem hd_F_number : y_F_number.cls ≠ "java/lang/invoke/MethodHandle" ∧ y_F_number.cls ≠ "java/lang/invoke/VarHandle" ∧ (parseMethodDescriptor y_F_number.desc).map (fun d => d.parameters.length) = some 3 := by decide +kernel
abbrev b_F_across : ByteArray := prog_1_method_10_code
def y_F_across : MethodName := ⟨R_F, "across", "(II)I"⟩
abbrev w_F_across : List Cond := .code y_F_across b_F_across 5 (some .int) :: BIG
theorem hd_F_across : y_F_across.cls ≠ "java/lang/invoke/MethodHandle" ∧ y_F_across.cls ≠ "java/lang/invoke/VarHandle" ∧ (parseMethodDescriptor y_F_across.desc).map (fun d => d.parameters.length) = some 2 := by decide +kernel
abbrev b_F_corners : ByteArray := prog_1_method_11_code
def y_F_corners : MethodName := ⟨R_F, "corners", "(I)I"⟩
abbrev w_F_corners : List Cond := .code y_F_corners b_F_corners 2 (some .int) :: BIG
theorem hd_F_corners : y_F_corners.cls ≠ "java/lang/invoke/MethodHandle" ∧ y_F_corners.cls ≠ "java/lang/invoke/VarHandle" ∧ (parseMethodDescriptor y_F_corners.desc).map (fun d => d.parameters.length) = some 1 := by decide +kernel
abbrev b_F_locate : ByteArray := prog_1_method_12_code
def y_F_locate : MethodName := ⟨R_F, "locate", "(II)I"⟩
abbrev w_F_locate : List Cond := .code y_F_locate b_F_locate 4 (some .int) :: BIG
theorem hd_F_locate : y_F_locate.cls ≠ "java/lang/invoke/MethodHandle" ∧ y_F_locate.cls ≠ "java/lang/invoke/VarHandle" ∧ (parseMethodDescriptor y_F_locate.desc).map (fun d => d.parameters.length) = some 2 := by decide +kernel
abbrev b_F_nearest : ByteArray := prog_1_method_13_code
def y_F_nearest : MethodName := ⟨R_F, "nearest", "(II)I"⟩
abbrev w_F_nearest : List Cond := .code y_F_nearest b_F_nearest 9 (some .int) :: BIG
theorem hd_F_nearest : y_F_nearest.cls ≠ "java/lang/invoke/MethodHandle" ∧ y_F_nearest.cls ≠ "java/lang/invoke/VarHandle" ∧ (parseMethodDescriptor y_F_nearest.desc).map (fun d => d.parameters.length) = some 2 := by decide +kernel
abbrev b_F_neighbours : ByteArray := prog_1_method_14_code
def y_F_neighbours : MethodName := ⟨R_F, "neighbours", "(I)I"⟩
abbrev w_F_neighbours : List Cond := .code y_F_neighbours b_F_neighbours 2 (some .int) :: BIG
theorem hd_F_neighbours : y_F_neighbours.cls ≠ "java/lang/invoke/MethodHandle" ∧ y_F_neighbours.cls ≠ "java/lang/invoke/VarHandle" ∧ (parseMethodDescriptor y_F_neighbours.desc).map (fun d => d.parameters.length) = some 1 := by decide +kernel
abbrev b_F_boundary : ByteArray := prog_1_method_15_code
def y_F_boundary : MethodName := ⟨R_F, "boundary", "(I)I"⟩
abbrev w_F_boundary : List Cond := .code y_F_boundary b_F_boundary 2 (some .int) :: BIG
theorem hd_F_boundary : y_F_boundary.cls ≠ "java/lang/invoke/MethodHandle" ∧ y_F_boundary.cls ≠ "java/lang/invoke/VarHandle" ∧ (parseMethodDescriptor y_F_boundary.desc).map (fun d => d.parameters.length) = some 1 := by decide +kernel
abbrev b_F_inside : ByteArray := prog_1_method_16_code
def y_F_inside : MethodName := ⟨R_F, "inside", "(IIII)I"⟩
abbrev w_F_inside : List Cond := .code y_F_inside b_F_inside 6 (some .int) :: BIG
theorem hd_F_inside : y_F_inside.cls ≠ "java/lang/invoke/MethodHandle" ∧ y_F_inside.cls ≠ "java/lang/invoke/VarHandle" ∧ (parseMethodDescriptor y_F_inside.desc).map (fun d => d.parameters.length) = some 4 := by decide +kernel
abbrev b_F_area : ByteArray := prog_1_method_17_code
def y_F_area : MethodName := ⟨R_F, "area", "()J"⟩
abbrev w_F_area : List Cond := .code y_F_area b_F_area 4 (some .long) :: BIG
theorem hd_F_area : y_F_area.cls ≠ "java/lang/invoke/MethodHandle" ∧ y_F_area.cls ≠ "java/lang/invoke/VarHandle" ∧ (parseMethodDescriptor y_F_area.desc).map (fun d => d.parameters.length) = some 0 := by decide +kernel
abbrev b_F_refresh : ByteArray := prog_1_method_18_code
def y_F_refresh : MethodName := ⟨R_F, "refresh", "()V"⟩
abbrev w_F_refresh : List Cond := .code y_F_refresh b_F_refresh 1 none :: BIG
theorem hd_F_refresh : y_F_refresh.cls ≠ "java/lang/invoke/MethodHandle" ∧ y_F_refresh.cls ≠ "java/lang/invoke/VarHandle" ∧ (parseMethodDescriptor y_F_refresh.desc).map (fun d => d.parameters.length) = some 0 := by decide +kernel
abbrev b_F_covers : ByteArray := prog_1_method_19_code
def y_F_covers : MethodName := ⟨R_F, "covers", "(III)Z"⟩
abbrev w_F_covers : List Cond := .code y_F_covers b_F_covers 7 (some .boolean) :: BIG
theorem hd_F_covers : y_F_covers.cls ≠ "java/lang/invoke/MethodHandle" ∧ y_F_covers.cls ≠ "java/lang/invoke/VarHandle" ∧ (parseMethodDescriptor y_F_covers.desc).map (fun d => d.parameters.length) = some 3 := by decide +kernel
abbrev b_F_inReach : ByteArray := prog_1_method_20_code
def y_F_inReach : MethodName := ⟨R_F, "inReach", "(II)Z"⟩
abbrev w_F_inReach : List Cond := .code y_F_inReach b_F_inReach 2 (some .boolean) :: BIG
theorem hd_F_inReach : y_F_inReach.cls ≠ "java/lang/invoke/MethodHandle" ∧ y_F_inReach.cls ≠ "java/lang/invoke/VarHandle" ∧ (parseMethodDescriptor y_F_inReach.desc).map (fun d => d.parameters.length) = some 2 := by decide +kernel
abbrev b_F_sign : ByteArray := prog_1_method_21_code
def y_F_sign : MethodName := ⟨R_F, "sign", "(J)I"⟩
abbrev w_F_sign : List Cond := .code y_F_sign b_F_sign 2 (some .int) :: BIG
theorem hd_F_sign : y_F_sign.cls ≠ "java/lang/invoke/MethodHandle" ∧ y_F_sign.cls ≠ "java/lang/invoke/VarHandle" ∧ (parseMethodDescriptor y_F_sign.desc).map (fun d => d.parameters.length) = some 1 := by decide +kernel
abbrev b_N_init : ByteArray := prog_6_method_1_code
def y_N_init : MethodName := ⟨R_N, "<init>", "()V"⟩
abbrev w_N_init : List Cond := .code y_N_init b_N_init 1 none :: BIG
theorem hd_N_init : y_N_init.cls ≠ "java/lang/invoke/MethodHandle" ∧ y_N_init.cls ≠ "java/lang/invoke/VarHandle" ∧ (parseMethodDescriptor y_N_init.desc).map (fun d => d.parameters.length) = some 0 := by decide +kernel
abbrev b_N_is : ByteArray := prog_6_method_2_code
def y_N_is : MethodName := ⟨R_N, "is", "(I)Z"⟩
abbrev w_N_is : List Cond := .code y_N_is b_N_is 2 (some .boolean) :: BIG
theorem hd_N_is : y_N_is.cls ≠ "java/lang/invoke/MethodHandle" ∧ y_N_is.cls ≠ "java/lang/invoke/VarHandle" ∧ (parseMethodDescriptor y_N_is.desc).map (fun d => d.parameters.length) = some 1 := by decide +kernel
abbrev b_N_outside : ByteArray := prog_6_method_3_code
def y_N_outside : MethodName := ⟨R_N, "outside", "(II)Z"⟩
abbrev w_N_outside : List Cond := .code y_N_outside b_N_outside 2 (some .boolean) :: BIG
theorem hd_N_outside : y_N_outside.cls ≠ "java/lang/invoke/MethodHandle" ∧ y_N_outside.cls ≠ "java/lang/invoke/VarHandle" ∧ (parseMethodDescriptor y_N_outside.desc).map (fun d => d.parameters.length) = some 2 := by decide +kernel
abbrev b_N_siteAt : ByteArray := prog_6_method_4_code
def y_N_siteAt : MethodName := ⟨R_N, "siteAt", "(II)I"⟩
abbrev w_N_siteAt : List Cond := .code y_N_siteAt b_N_siteAt 5 (some .int) :: BIG
theorem hd_N_siteAt : y_N_siteAt.cls ≠ "java/lang/invoke/MethodHandle" ∧ y_N_siteAt.cls ≠ "java/lang/invoke/VarHandle" ∧ (parseMethodDescriptor y_N_siteAt.desc).map (fun d => d.parameters.length) = some 2 := by decide +kernel
abbrev b_N_insert : ByteArray := prog_6_method_5_code
def y_N_insert : MethodName := ⟨R_N, "insert", "(II)I"⟩
abbrev w_N_insert : List Cond := .code y_N_insert b_N_insert 4 (some .int) :: BIG
theorem hd_N_insert : y_N_insert.cls ≠ "java/lang/invoke/MethodHandle" ∧ y_N_insert.cls ≠ "java/lang/invoke/VarHandle" ∧ (parseMethodDescriptor y_N_insert.desc).map (fun d => d.parameters.length) = some 2 := by decide +kernel
abbrev b_N_remove : ByteArray := prog_6_method_6_code
def y_N_remove : MethodName := ⟨R_N, "remove", "(I)Z"⟩
abbrev w_N_remove : List Cond := .code y_N_remove b_N_remove 2 (some .boolean) :: BIG
theorem hd_N_remove : y_N_remove.cls ≠ "java/lang/invoke/MethodHandle" ∧ y_N_remove.cls ≠ "java/lang/invoke/VarHandle" ∧ (parseMethodDescriptor y_N_remove.desc).map (fun d => d.parameters.length) = some 1 := by decide +kernel
abbrev b_N_move : ByteArray := prog_6_method_7_code
def y_N_move : MethodName := ⟨R_N, "move", "(III)I"⟩
abbrev w_N_move : List Cond := .code y_N_move b_N_move 5 (some .int) :: BIG
theorem hd_N_move : y_N_move.cls ≠ "java/lang/invoke/MethodHandle" ∧ y_N_move.cls ≠ "java/lang/invoke/VarHandle" ∧ (parseMethodDescriptor y_N_move.desc).map (fun d => d.parameters.length) = some 3 := by decide +kernel
abbrev b_N_sites : ByteArray := prog_6_method_8_code
def y_N_sites : MethodName := ⟨R_N, "sites", "()I"⟩
abbrev w_N_sites : List Cond := .code y_N_sites b_N_sites 3 (some .int) :: BIG
theorem hd_N_sites : y_N_sites.cls ≠ "java/lang/invoke/MethodHandle" ∧ y_N_sites.cls ≠ "java/lang/invoke/VarHandle" ∧ (parseMethodDescriptor y_N_sites.desc).map (fun d => d.parameters.length) = some 0 := by decide +kernel
abbrev b_N_coordinate : ByteArray := prog_6_method_9_code
def y_N_coordinate : MethodName := ⟨R_N, "coordinate", "(II)I"⟩
abbrev w_N_coordinate : List Cond := .code y_N_coordinate b_N_coordinate 3 (some .int) :: BIG
theorem hd_N_coordinate : y_N_coordinate.cls ≠ "java/lang/invoke/MethodHandle" ∧ y_N_coordinate.cls ≠ "java/lang/invoke/VarHandle" ∧ (parseMethodDescriptor y_N_coordinate.desc).map (fun d => d.parameters.length) = some 2 := by decide +kernel
abbrev b_N_earlier : ByteArray := prog_6_method_10_code
def y_N_earlier : MethodName := ⟨R_N, "earlier", "(II)Z"⟩
abbrev w_N_earlier : List Cond := .code y_N_earlier b_N_earlier 3 (some .boolean) :: BIG
theorem hd_N_earlier : y_N_earlier.cls ≠ "java/lang/invoke/MethodHandle" ∧ y_N_earlier.cls ≠ "java/lang/invoke/VarHandle" ∧ (parseMethodDescriptor y_N_earlier.desc).map (fun d => d.parameters.length) = some 2 := by decide +kernel
abbrev b_N_sideOf : ByteArray := prog_6_method_11_code
def y_N_sideOf : MethodName := ⟨R_N, "sideOf", "(IIII)I"⟩
abbrev w_N_sideOf : List Cond := .code y_N_sideOf b_N_sideOf 7 (some .int) :: BIG
theorem hd_N_sideOf : y_N_sideOf.cls ≠ "java/lang/invoke/MethodHandle" ∧ y_N_sideOf.cls ≠ "java/lang/invoke/VarHandle" ∧ (parseMethodDescriptor y_N_sideOf.desc).map (fun d => d.parameters.length) = some 4 := by decide +kernel
abbrev b_N_side : ByteArray := prog_6_method_12_code
def y_N_side : MethodName := ⟨R_N, "side", "(III)I"⟩
abbrev w_N_side : List Cond := .code y_N_side b_N_side 4 (some .int) :: BIG
theorem hd_N_side : y_N_side.cls ≠ "java/lang/invoke/MethodHandle" ∧ y_N_side.cls ≠ "java/lang/invoke/VarHandle" ∧ (parseMethodDescriptor y_N_side.desc).map (fun d => d.parameters.length) = some 3 := by decide +kernel
abbrev b_N_low : ByteArray := prog_6_method_13_code
def y_N_low : MethodName := ⟨R_N, "low", "(J)J"⟩
abbrev w_N_low : List Cond := .code y_N_low b_N_low 2 (some .long) :: BIG
theorem hd_N_low : y_N_low.cls ≠ "java/lang/invoke/MethodHandle" ∧ y_N_low.cls ≠ "java/lang/invoke/VarHandle" ∧ (parseMethodDescriptor y_N_low.desc).map (fun d => d.parameters.length) = some 1 := by decide +kernel
abbrev b_N_sign : ByteArray := prog_6_method_14_code
def y_N_sign : MethodName := ⟨R_N, "sign", "(JJJJJJ)I"⟩
abbrev w_N_sign : List Cond := .code y_N_sign b_N_sign 19 (some .int) :: BIG
theorem hd_N_sign : y_N_sign.cls ≠ "java/lang/invoke/MethodHandle" ∧ y_N_sign.cls ≠ "java/lang/invoke/VarHandle" ∧ (parseMethodDescriptor y_N_sign.desc).map (fun d => d.parameters.length) = some 6 := by decide +kernel
abbrev b_N_circle : ByteArray := prog_6_method_15_code
def y_N_circle : MethodName := ⟨R_N, "circle", "(IIII)I"⟩
abbrev w_N_circle : List Cond := .code y_N_circle b_N_circle 17 (some .int) :: BIG
theorem hd_N_circle : y_N_circle.cls ≠ "java/lang/invoke/MethodHandle" ∧ y_N_circle.cls ≠ "java/lang/invoke/VarHandle" ∧ (parseMethodDescriptor y_N_circle.desc).map (fun d => d.parameters.length) = some 4 := by decide +kernel
abbrev b_N_isTriangle : ByteArray := prog_6_method_16_code
def y_N_isTriangle : MethodName := ⟨R_N, "isTriangle", "(III)Z"⟩
abbrev w_N_isTriangle : List Cond := .code y_N_isTriangle b_N_isTriangle 6 (some .boolean) :: BIG
theorem hd_N_isTriangle : y_N_isTriangle.cls ≠ "java/lang/invoke/MethodHandle" ∧ y_N_isTriangle.cls ≠ "java/lang/invoke/VarHandle" ∧ (parseMethodDescriptor y_N_isTriangle.desc).map (fun d => d.parameters.length) = some 3 := by decide +kernel
abbrev b_N_work : ByteArray := prog_6_method_17_code
def y_N_work : MethodName := ⟨R_N, "work", "()V"⟩
abbrev w_N_work : List Cond := .code y_N_work b_N_work 4 none :: BIG
theorem hd_N_work : y_N_work.cls ≠ "java/lang/invoke/MethodHandle" ∧ y_N_work.cls ≠ "java/lang/invoke/VarHandle" ∧ (parseMethodDescriptor y_N_work.desc).map (fun d => d.parameters.length) = some 0 := by decide +kernel
abbrev b_N_triangles : ByteArray := prog_6_method_18_code
def y_N_triangles : MethodName := ⟨R_N, "triangles", "()I"⟩
abbrev w_N_triangles : List Cond := .code y_N_triangles b_N_triangles 1 (some .int) :: BIG
theorem hd_N_triangles : y_N_triangles.cls ≠ "java/lang/invoke/MethodHandle" ∧ y_N_triangles.cls ≠ "java/lang/invoke/VarHandle" ∧ (parseMethodDescriptor y_N_triangles.desc).map (fun d => d.parameters.length) = some 0 := by decide +kernel
abbrev b_N_triangle : ByteArray := prog_6_method_19_code
def y_N_triangle : MethodName := ⟨R_N, "triangle", "(I)I"⟩
abbrev w_N_triangle : List Cond := .code y_N_triangle b_N_triangle 2 (some .int) :: BIG
theorem hd_N_triangle : y_N_triangle.cls ≠ "java/lang/invoke/MethodHandle" ∧ y_N_triangle.cls ≠ "java/lang/invoke/VarHandle" ∧ (parseMethodDescriptor y_N_triangle.desc).map (fun d => d.parameters.length) = some 1 := by decide +kernel
abbrev b_N_has : ByteArray := prog_6_method_20_code
def y_N_has : MethodName := ⟨R_N, "has", "(II)Z"⟩
abbrev w_N_has : List Cond := .code y_N_has b_N_has 3 (some .boolean) :: BIG
theorem hd_N_has : y_N_has.cls ≠ "java/lang/invoke/MethodHandle" ∧ y_N_has.cls ≠ "java/lang/invoke/VarHandle" ∧ (parseMethodDescriptor y_N_has.desc).map (fun d => d.parameters.length) = some 2 := by decide +kernel
abbrev b_N_number : ByteArray := prog_6_method_21_code
def y_N_number : MethodName := ⟨R_N, "number", "(III)I"⟩
abbrev w_N_number : List Cond := .code y_N_number b_N_number 5 (some .int) :: BIG
theorem hd_N_number : y_N_number.cls ≠ "java/lang/invoke/MethodHandle" ∧ y_N_number.cls ≠ "java/lang/invoke/VarHandle" ∧ (parseMethodDescriptor y_N_number.desc).map (fun d => d.parameters.length) = some 3 := by decide +kernel
abbrev b_N_across : ByteArray := prog_6_method_22_code
def y_N_across : MethodName := ⟨R_N, "across", "(II)I"⟩
abbrev w_N_across : List Cond := .code y_N_across b_N_across 6 (some .int) :: BIG
theorem hd_N_across : y_N_across.cls ≠ "java/lang/invoke/MethodHandle" ∧ y_N_across.cls ≠ "java/lang/invoke/VarHandle" ∧ (parseMethodDescriptor y_N_across.desc).map (fun d => d.parameters.length) = some 2 := by decide +kernel
abbrev b_N_corners : ByteArray := prog_6_method_23_code
def y_N_corners : MethodName := ⟨R_N, "corners", "(I)I"⟩
abbrev w_N_corners : List Cond := .code y_N_corners b_N_corners 4 (some .int) :: BIG
theorem hd_N_corners : y_N_corners.cls ≠ "java/lang/invoke/MethodHandle" ∧ y_N_corners.cls ≠ "java/lang/invoke/VarHandle" ∧ (parseMethodDescriptor y_N_corners.desc).map (fun d => d.parameters.length) = some 1 := by decide +kernel
abbrev b_N_locate : ByteArray := prog_6_method_24_code
def y_N_locate : MethodName := ⟨R_N, "locate", "(II)I"⟩
abbrev w_N_locate : List Cond := .code y_N_locate b_N_locate 4 (some .int) :: BIG
theorem hd_N_locate : y_N_locate.cls ≠ "java/lang/invoke/MethodHandle" ∧ y_N_locate.cls ≠ "java/lang/invoke/VarHandle" ∧ (parseMethodDescriptor y_N_locate.desc).map (fun d => d.parameters.length) = some 2 := by decide +kernel
abbrev b_N_nearest : ByteArray := prog_6_method_25_code
def y_N_nearest : MethodName := ⟨R_N, "nearest", "(II)I"⟩
abbrev w_N_nearest : List Cond := .code y_N_nearest b_N_nearest 13 (some .int) :: BIG
theorem hd_N_nearest : y_N_nearest.cls ≠ "java/lang/invoke/MethodHandle" ∧ y_N_nearest.cls ≠ "java/lang/invoke/VarHandle" ∧ (parseMethodDescriptor y_N_nearest.desc).map (fun d => d.parameters.length) = some 2 := by decide +kernel
abbrev b_N_follow : ByteArray := prog_6_method_26_code
def y_N_follow : MethodName := ⟨R_N, "follow", "(III)Z"⟩
abbrev w_N_follow : List Cond := .code y_N_follow b_N_follow 6 (some .boolean) :: BIG
theorem hd_N_follow : y_N_follow.cls ≠ "java/lang/invoke/MethodHandle" ∧ y_N_follow.cls ≠ "java/lang/invoke/VarHandle" ∧ (parseMethodDescriptor y_N_follow.desc).map (fun d => d.parameters.length) = some 3 := by decide +kernel
abbrev b_N_flatNeighbours : ByteArray := prog_6_method_27_code
def y_N_flatNeighbours : MethodName := ⟨R_N, "flatNeighbours", "(I)I"⟩
abbrev w_N_flatNeighbours : List Cond := .code y_N_flatNeighbours b_N_flatNeighbours 5 (some .int) :: BIG
theorem hd_N_flatNeighbours : y_N_flatNeighbours.cls ≠ "java/lang/invoke/MethodHandle" ∧ y_N_flatNeighbours.cls ≠ "java/lang/invoke/VarHandle" ∧ (parseMethodDescriptor y_N_flatNeighbours.desc).map (fun d => d.parameters.length) = some 1 := by decide +kernel
abbrev b_N_link : ByteArray := prog_6_method_28_code
def y_N_link : MethodName := ⟨R_N, "link", "(IIII)I"⟩
abbrev w_N_link : List Cond := .code y_N_link b_N_link 6 (some .int) :: BIG
theorem hd_N_link : y_N_link.cls ≠ "java/lang/invoke/MethodHandle" ∧ y_N_link.cls ≠ "java/lang/invoke/VarHandle" ∧ (parseMethodDescriptor y_N_link.desc).map (fun d => d.parameters.length) = some 4 := by decide +kernel
abbrev b_N_neighbours : ByteArray := prog_6_method_29_code
def y_N_neighbours : MethodName := ⟨R_N, "neighbours", "(I)I"⟩
abbrev w_N_neighbours : List Cond := .code y_N_neighbours b_N_neighbours 4 (some .int) :: BIG
theorem hd_N_neighbours : y_N_neighbours.cls ≠ "java/lang/invoke/MethodHandle" ∧ y_N_neighbours.cls ≠ "java/lang/invoke/VarHandle" ∧ (parseMethodDescriptor y_N_neighbours.desc).map (fun d => d.parameters.length) = some 1 := by decide +kernel
abbrev b_N_earliest : ByteArray := prog_6_method_30_code
def y_N_earliest : MethodName := ⟨R_N, "earliest", "()I"⟩
abbrev w_N_earliest : List Cond := .code y_N_earliest b_N_earliest 3 (some .int) :: BIG
theorem hd_N_earliest : y_N_earliest.cls ≠ "java/lang/invoke/MethodHandle" ∧ y_N_earliest.cls ≠ "java/lang/invoke/VarHandle" ∧ (parseMethodDescriptor y_N_earliest.desc).map (fun d => d.parameters.length) = some 0 := by decide +kernel
abbrev b_N_distance : ByteArray := prog_6_method_31_code
def y_N_distance : MethodName := ⟨R_N, "distance", "(II)J"⟩
abbrev w_N_distance : List Cond := .code y_N_distance b_N_distance 7 (some .long) :: BIG
theorem hd_N_distance : y_N_distance.cls ≠ "java/lang/invoke/MethodHandle" ∧ y_N_distance.cls ≠ "java/lang/invoke/VarHandle" ∧ (parseMethodDescriptor y_N_distance.desc).map (fun d => d.parameters.length) = some 2 := by decide +kernel
abbrev b_N_onward : ByteArray := prog_6_method_32_code
def y_N_onward : MethodName := ⟨R_N, "onward", "(I)I"⟩
abbrev w_N_onward : List Cond := .code y_N_onward b_N_onward 6 (some .int) :: BIG
theorem hd_N_onward : y_N_onward.cls ≠ "java/lang/invoke/MethodHandle" ∧ y_N_onward.cls ≠ "java/lang/invoke/VarHandle" ∧ (parseMethodDescriptor y_N_onward.desc).map (fun d => d.parameters.length) = some 1 := by decide +kernel
abbrev b_N_later : ByteArray := prog_6_method_33_code
def y_N_later : MethodName := ⟨R_N, "later", "(I)I"⟩
abbrev w_N_later : List Cond := .code y_N_later b_N_later 4 (some .int) :: BIG
theorem hd_N_later : y_N_later.cls ≠ "java/lang/invoke/MethodHandle" ∧ y_N_later.cls ≠ "java/lang/invoke/VarHandle" ∧ (parseMethodDescriptor y_N_later.desc).map (fun d => d.parameters.length) = some 1 := by decide +kernel
abbrev b_N_goRound : ByteArray := prog_6_method_34_code
def y_N_goRound : MethodName := ⟨R_N, "goRound", "()V"⟩
abbrev w_N_goRound : List Cond := .code y_N_goRound b_N_goRound 3 none :: BIG
theorem hd_N_goRound : y_N_goRound.cls ≠ "java/lang/invoke/MethodHandle" ∧ y_N_goRound.cls ≠ "java/lang/invoke/VarHandle" ∧ (parseMethodDescriptor y_N_goRound.desc).map (fun d => d.parameters.length) = some 0 := by decide +kernel
abbrev b_N_boundary : ByteArray := prog_6_method_35_code
def y_N_boundary : MethodName := ⟨R_N, "boundary", "(I)I"⟩
abbrev w_N_boundary : List Cond := .code y_N_boundary b_N_boundary 2 (some .int) :: BIG
theorem hd_N_boundary : y_N_boundary.cls ≠ "java/lang/invoke/MethodHandle" ∧ y_N_boundary.cls ≠ "java/lang/invoke/VarHandle" ∧ (parseMethodDescriptor y_N_boundary.desc).map (fun d => d.parameters.length) = some 1 := by decide +kernel
abbrev b_N_inside : ByteArray := prog_6_method_36_code
def y_N_inside : MethodName := ⟨R_N, "inside", "(IIII)I"⟩
abbrev w_N_inside : List Cond := .code y_N_inside b_N_inside 5 (some .int) :: BIG
theorem hd_N_inside : y_N_inside.cls ≠ "java/lang/invoke/MethodHandle" ∧ y_N_inside.cls ≠ "java/lang/invoke/VarHandle" ∧ (parseMethodDescriptor y_N_inside.desc).map (fun d => d.parameters.length) = some 4 := by decide +kernel
abbrev b_N_area : ByteArray := prog_6_method_37_code
def y_N_area : MethodName := ⟨R_N, "area", "()J"⟩
abbrev w_N_area : List Cond := .code y_N_area b_N_area 6 (some .long) :: BIG
theorem hd_N_area : y_N_area.cls ≠ "java/lang/invoke/MethodHandle" ∧ y_N_area.cls ≠ "java/lang/invoke/VarHandle" ∧ (parseMethodDescriptor y_N_area.desc).map (fun d => d.parameters.length) = some 0 := by decide +kernel
abbrev b_M_init : ByteArray := prog_2_method_1_code
def y_M_init : MethodName := ⟨R_M, "<init>", "()V"⟩
abbrev w_M_init : List Cond := .code y_M_init b_M_init 1 none :: BIG
theorem hd_M_init : y_M_init.cls ≠ "java/lang/invoke/MethodHandle" ∧ y_M_init.cls ≠ "java/lang/invoke/VarHandle" ∧ (parseMethodDescriptor y_M_init.desc).map (fun d => d.parameters.length) = some 0 := by decide +kernel
abbrev b_M_size : ByteArray := prog_2_method_2_code
def y_M_size : MethodName := ⟨R_M, "size", "()I"⟩
abbrev w_M_size : List Cond := .code y_M_size b_M_size 1 (some .int) :: BIG
theorem hd_M_size : y_M_size.cls ≠ "java/lang/invoke/MethodHandle" ∧ y_M_size.cls ≠ "java/lang/invoke/VarHandle" ∧ (parseMethodDescriptor y_M_size.desc).map (fun d => d.parameters.length) = some 0 := by decide +kernel
abbrev b_M_has : ByteArray := prog_2_method_3_code
def y_M_has : MethodName := ⟨R_M, "has", "(I)Z"⟩
abbrev w_M_has : List Cond := .code y_M_has b_M_has 2 (some .boolean) :: BIG
theorem hd_M_has : y_M_has.cls ≠ "java/lang/invoke/MethodHandle" ∧ y_M_has.cls ≠ "java/lang/invoke/VarHandle" ∧ (parseMethodDescriptor y_M_has.desc).map (fun d => d.parameters.length) = some 1 := by decide +kernel
abbrev b_M_corner : ByteArray := prog_2_method_4_code
def y_M_corner : MethodName := ⟨R_M, "corner", "(II)I"⟩
abbrev w_M_corner : List Cond := .code y_M_corner b_M_corner 3 (some .int) :: BIG
theorem hd_M_corner : y_M_corner.cls ≠ "java/lang/invoke/MethodHandle" ∧ y_M_corner.cls ≠ "java/lang/invoke/VarHandle" ∧ (parseMethodDescriptor y_M_corner.desc).map (fun d => d.parameters.length) = some 2 := by decide +kernel
abbrev b_M_cornerSet : ByteArray := prog_2_method_5_code
def y_M_cornerSet : MethodName := ⟨R_M, "cornerSet", "(I)I"⟩
abbrev w_M_cornerSet : List Cond := .code y_M_cornerSet b_M_cornerSet 2 (some .int) :: BIG
theorem hd_M_cornerSet : y_M_cornerSet.cls ≠ "java/lang/invoke/MethodHandle" ∧ y_M_cornerSet.cls ≠ "java/lang/invoke/VarHandle" ∧ (parseMethodDescriptor y_M_cornerSet.desc).map (fun d => d.parameters.length) = some 1 := by decide +kernel
abbrev b_M_faceSize : ByteArray := prog_2_method_6_code
def y_M_faceSize : MethodName := ⟨R_M, "faceSize", "(I)I"⟩
abbrev w_M_faceSize : List Cond := .code y_M_faceSize b_M_faceSize 2 (some .int) :: BIG
theorem hd_M_faceSize : y_M_faceSize.cls ≠ "java/lang/invoke/MethodHandle" ∧ y_M_faceSize.cls ≠ "java/lang/invoke/VarHandle" ∧ (parseMethodDescriptor y_M_faceSize.desc).map (fun d => d.parameters.length) = some 1 := by decide +kernel
abbrev b_M_linkedTo : ByteArray := prog_2_method_7_code
def y_M_linkedTo : MethodName := ⟨R_M, "linkedTo", "(I)I"⟩
abbrev w_M_linkedTo : List Cond := .code y_M_linkedTo b_M_linkedTo 2 (some .int) :: BIG
theorem hd_M_linkedTo : y_M_linkedTo.cls ≠ "java/lang/invoke/MethodHandle" ∧ y_M_linkedTo.cls ≠ "java/lang/invoke/VarHandle" ∧ (parseMethodDescriptor y_M_linkedTo.desc).map (fun d => d.parameters.length) = some 1 := by decide +kernel
abbrev b_M_begin : ByteArray := prog_2_method_8_code
def y_M_begin : MethodName := ⟨R_M, "begin", "(LFannedSites$Outline;)V"⟩
abbrev w_M_begin : List Cond := .code y_M_begin b_M_begin 2 none :: BIG
theorem hd_M_begin : y_M_begin.cls ≠ "java/lang/invoke/MethodHandle" ∧ y_M_begin.cls ≠ "java/lang/invoke/VarHandle" ∧ (parseMethodDescriptor y_M_begin.desc).map (fun d => d.parameters.length) = some 1 := by decide +kernel
abbrev b_M_linkLine : ByteArray := prog_2_method_9_code
def y_M_linkLine : MethodName := ⟨R_M, "linkLine", "(LFannedSites$Outline;)V"⟩
abbrev w_M_linkLine : List Cond := .code y_M_linkLine b_M_linkLine 3 none :: BIG
theorem hd_M_linkLine : y_M_linkLine.cls ≠ "java/lang/invoke/MethodHandle" ∧ y_M_linkLine.cls ≠ "java/lang/invoke/VarHandle" ∧ (parseMethodDescriptor y_M_linkLine.desc).map (fun d => d.parameters.length) = some 1 := by decide +kernel
abbrev b_M_awaitOutline : ByteArray := prog_2_method_10_code
def y_M_awaitOutline : MethodName := ⟨R_M, "awaitOutline", "(LFannedSites$Outline;)V"⟩
abbrev w_M_awaitOutline : List Cond := .code y_M_awaitOutline b_M_awaitOutline 5 none :: BIG
theorem hd_M_awaitOutline : y_M_awaitOutline.cls ≠ "java/lang/invoke/MethodHandle" ∧ y_M_awaitOutline.cls ≠ "java/lang/invoke/VarHandle" ∧ (parseMethodDescriptor y_M_awaitOutline.desc).map (fun d => d.parameters.length) = some 1 := by decide +kernel
abbrev b_M_spread : ByteArray := prog_2_method_11_code
def y_M_spread : MethodName := ⟨R_M, "spread", "(LFannedSites$Points;)V"⟩
abbrev w_M_spread : List Cond := .code y_M_spread b_M_spread 6 none :: BIG
theorem hd_M_spread : y_M_spread.cls ≠ "java/lang/invoke/MethodHandle" ∧ y_M_spread.cls ≠ "java/lang/invoke/VarHandle" ∧ (parseMethodDescriptor y_M_spread.desc).map (fun d => d.parameters.length) = some 1 := by decide +kernel
abbrev b_M_gatherRing : ByteArray := prog_2_method_12_code
def y_M_gatherRing : MethodName := ⟨R_M, "gatherRing", "(LFannedSites$Points;III)V"⟩
abbrev w_M_gatherRing : List Cond := .code y_M_gatherRing b_M_gatherRing 7 none :: BIG
theorem hd_M_gatherRing : y_M_gatherRing.cls ≠ "java/lang/invoke/MethodHandle" ∧ y_M_gatherRing.cls ≠ "java/lang/invoke/VarHandle" ∧ (parseMethodDescriptor y_M_gatherRing.desc).map (fun d => d.parameters.length) = some 4 := by decide +kernel
abbrev b_M_apexOver : ByteArray := prog_2_method_13_code
def y_M_apexOver : MethodName := ⟨R_M, "apexOver", "(LFannedSites$Points;II)I"⟩
abbrev w_M_apexOver : List Cond := .code y_M_apexOver b_M_apexOver 6 (some .int) :: BIG
theorem hd_M_apexOver : y_M_apexOver.cls ≠ "java/lang/invoke/MethodHandle" ∧ y_M_apexOver.cls ≠ "java/lang/invoke/VarHandle" ∧ (parseMethodDescriptor y_M_apexOver.desc).map (fun d => d.parameters.length) = some 3 := by decide +kernel
abbrev b_M_addToRing : ByteArray := prog_2_method_14_code
def y_M_addToRing : MethodName := ⟨R_M, "addToRing", "(LFannedSites$Points;I)V"⟩
abbrev w_M_addToRing : List Cond := .code y_M_addToRing b_M_addToRing 4 none :: BIG
theorem hd_M_addToRing : y_M_addToRing.cls ≠ "java/lang/invoke/MethodHandle" ∧ y_M_addToRing.cls ≠ "java/lang/invoke/VarHandle" ∧ (parseMethodDescriptor y_M_addToRing.desc).map (fun d => d.parameters.length) = some 2 := by decide +kernel
abbrev b_M_addFace : ByteArray := prog_2_method_15_code
def y_M_addFace : MethodName := ⟨R_M, "addFace", "()V"⟩
abbrev w_M_addFace : List Cond := .code y_M_addFace b_M_addFace 4 none :: BIG
theorem hd_M_addFace : y_M_addFace.cls ≠ "java/lang/invoke/MethodHandle" ∧ y_M_addFace.cls ≠ "java/lang/invoke/VarHandle" ∧ (parseMethodDescriptor y_M_addFace.desc).map (fun d => d.parameters.length) = some 0 := by decide +kernel
abbrev b_M_addTriangle : ByteArray := prog_2_method_16_code
def y_M_addTriangle : MethodName := ⟨R_M, "addTriangle", "(III)V"⟩
abbrev w_M_addTriangle : List Cond := .code y_M_addTriangle b_M_addTriangle 6 none :: BIG
theorem hd_M_addTriangle : y_M_addTriangle.cls ≠ "java/lang/invoke/MethodHandle" ∧ y_M_addTriangle.cls ≠ "java/lang/invoke/VarHandle" ∧ (parseMethodDescriptor y_M_addTriangle.desc).map (fun d => d.parameters.length) = some 3 := by decide +kernel
abbrev b_M_link : ByteArray := prog_2_method_17_code
def y_M_link : MethodName := ⟨R_M, "link", "(II)V"⟩
abbrev w_M_link : List Cond := .code y_M_link b_M_link 3 none :: BIG
theorem hd_M_link : y_M_link.cls ≠ "java/lang/invoke/MethodHandle" ∧ y_M_link.cls ≠ "java/lang/invoke/VarHandle" ∧ (parseMethodDescriptor y_M_link.desc).map (fun d => d.parameters.length) = some 2 := by decide +kernel
abbrev b_M_isLinked : ByteArray := prog_2_method_18_code
def y_M_isLinked : MethodName := ⟨R_M, "isLinked", "(II)Z"⟩
abbrev w_M_isLinked : List Cond := .code y_M_isLinked b_M_isLinked 3 (some .boolean) :: BIG
theorem hd_M_isLinked : y_M_isLinked.cls ≠ "java/lang/invoke/MethodHandle" ∧ y_M_isLinked.cls ≠ "java/lang/invoke/VarHandle" ∧ (parseMethodDescriptor y_M_isLinked.desc).map (fun d => d.parameters.length) = some 2 := by decide +kernel
abbrev b_M_await : ByteArray := prog_2_method_19_code
def y_M_await : MethodName := ⟨R_M, "await", "(II)V"⟩
abbrev w_M_await : List Cond := .code y_M_await b_M_await 3 none :: BIG
theorem hd_M_await : y_M_await.cls ≠ "java/lang/invoke/MethodHandle" ∧ y_M_await.cls ≠ "java/lang/invoke/VarHandle" ∧ (parseMethodDescriptor y_M_await.desc).map (fun d => d.parameters.length) = some 2 := by decide +kernel
abbrev b_O_init : ByteArray := prog_3_method_1_code
def y_O_init : MethodName := ⟨R_O, "<init>", "()V"⟩
abbrev w_O_init : List Cond := .code y_O_init b_O_init 1 none :: BIG
theorem hd_O_init : y_O_init.cls ≠ "java/lang/invoke/MethodHandle" ∧ y_O_init.cls ≠ "java/lang/invoke/VarHandle" ∧ (parseMethodDescriptor y_O_init.desc).map (fun d => d.parameters.length) = some 0 := by decide +kernel
abbrev b_O_size : ByteArray := prog_3_method_2_code
def y_O_size : MethodName := ⟨R_O, "size", "()I"⟩
abbrev w_O_size : List Cond := .code y_O_size b_O_size 1 (some .int) :: BIG
theorem hd_O_size : y_O_size.cls ≠ "java/lang/invoke/MethodHandle" ∧ y_O_size.cls ≠ "java/lang/invoke/VarHandle" ∧ (parseMethodDescriptor y_O_size.desc).map (fun d => d.parameters.length) = some 0 := by decide +kernel
abbrev b_O_isFlat : ByteArray := prog_3_method_3_code
def y_O_isFlat : MethodName := ⟨R_O, "isFlat", "()Z"⟩
abbrev w_O_isFlat : List Cond := .code y_O_isFlat b_O_isFlat 1 (some .boolean) :: BIG
theorem hd_O_isFlat : y_O_isFlat.cls ≠ "java/lang/invoke/MethodHandle" ∧ y_O_isFlat.cls ≠ "java/lang/invoke/VarHandle" ∧ (parseMethodDescriptor y_O_isFlat.desc).map (fun d => d.parameters.length) = some 0 := by decide +kernel
abbrev b_O_at : ByteArray := prog_3_method_4_code
def y_O_at : MethodName := ⟨R_O, "at", "(I)I"⟩
abbrev w_O_at : List Cond := .code y_O_at b_O_at 2 (some .int) :: BIG
theorem hd_O_at : y_O_at.cls ≠ "java/lang/invoke/MethodHandle" ∧ y_O_at.cls ≠ "java/lang/invoke/VarHandle" ∧ (parseMethodDescriptor y_O_at.desc).map (fun d => d.parameters.length) = some 1 := by decide +kernel
abbrev b_O_trace : ByteArray := prog_3_method_5_code
def y_O_trace : MethodName := ⟨R_O, "trace", "(LFannedSites$Points;)V"⟩
abbrev w_O_trace : List Cond := .code y_O_trace b_O_trace 4 none :: BIG
theorem hd_O_trace : y_O_trace.cls ≠ "java/lang/invoke/MethodHandle" ∧ y_O_trace.cls ≠ "java/lang/invoke/VarHandle" ∧ (parseMethodDescriptor y_O_trace.desc).map (fun d => d.parameters.length) = some 1 := by decide +kernel
abbrev b_O_allOnOneLine : ByteArray := prog_3_method_6_code
def y_O_allOnOneLine : MethodName := ⟨R_O, "allOnOneLine", "(LFannedSites$Points;)Z"⟩
abbrev w_O_allOnOneLine : List Cond := .code y_O_allOnOneLine b_O_allOnOneLine 2 (some .boolean) :: BIG
theorem hd_O_allOnOneLine : y_O_allOnOneLine.cls ≠ "java/lang/invoke/MethodHandle" ∧ y_O_allOnOneLine.cls ≠ "java/lang/invoke/VarHandle" ∧ (parseMethodDescriptor y_O_allOnOneLine.desc).map (fun d => d.parameters.length) = some 1 := by decide +kernel
abbrev b_O_push : ByteArray := prog_3_method_7_code
def y_O_push : MethodName := ⟨R_O, "push", "(LFannedSites$Points;I)V"⟩
abbrev w_O_push : List Cond := .code y_O_push b_O_push 3 none :: BIG
theorem hd_O_push : y_O_push.cls ≠ "java/lang/invoke/MethodHandle" ∧ y_O_push.cls ≠ "java/lang/invoke/VarHandle" ∧ (parseMethodDescriptor y_O_push.desc).map (fun d => d.parameters.length) = some 2 := by decide +kernel
abbrev b_P_init : ByteArray := prog_4_method_1_code
def y_P_init : MethodName := ⟨R_P, "<init>", "()V"⟩
abbrev w_P_init : List Cond := .code y_P_init b_P_init 1 none :: BIG
theorem hd_P_init : y_P_init.cls ≠ "java/lang/invoke/MethodHandle" ∧ y_P_init.cls ≠ "java/lang/invoke/VarHandle" ∧ (parseMethodDescriptor y_P_init.desc).map (fun d => d.parameters.length) = some 0 := by decide +kernel
abbrev b_P_size : ByteArray := prog_4_method_2_code
def y_P_size : MethodName := ⟨R_P, "size", "()I"⟩
abbrev w_P_size : List Cond := .code y_P_size b_P_size 1 (some .int) :: BIG
theorem hd_P_size : y_P_size.cls ≠ "java/lang/invoke/MethodHandle" ∧ y_P_size.cls ≠ "java/lang/invoke/VarHandle" ∧ (parseMethodDescriptor y_P_size.desc).map (fun d => d.parameters.length) = some 0 := by decide +kernel
abbrev b_P_has : ByteArray := prog_4_method_3_code
def y_P_has : MethodName := ⟨R_P, "has", "(I)Z"⟩
abbrev w_P_has : List Cond := .code y_P_has b_P_has 2 (some .boolean) :: BIG
theorem hd_P_has : y_P_has.cls ≠ "java/lang/invoke/MethodHandle" ∧ y_P_has.cls ≠ "java/lang/invoke/VarHandle" ∧ (parseMethodDescriptor y_P_has.desc).map (fun d => d.parameters.length) = some 1 := by decide +kernel
abbrev b_P_x : ByteArray := prog_4_method_4_code
def y_P_x : MethodName := ⟨R_P, "x", "(I)I"⟩
abbrev w_P_x : List Cond := .code y_P_x b_P_x 2 (some .int) :: BIG
theorem hd_P_x : y_P_x.cls ≠ "java/lang/invoke/MethodHandle" ∧ y_P_x.cls ≠ "java/lang/invoke/VarHandle" ∧ (parseMethodDescriptor y_P_x.desc).map (fun d => d.parameters.length) = some 1 := by decide +kernel
abbrev b_P_y : ByteArray := prog_4_method_5_code
def y_P_y : MethodName := ⟨R_P, "y", "(I)I"⟩
abbrev w_P_y : List Cond := .code y_P_y b_P_y 2 (some .int) :: BIG
theorem hd_P_y : y_P_y.cls ≠ "java/lang/invoke/MethodHandle" ∧ y_P_y.cls ≠ "java/lang/invoke/VarHandle" ∧ (parseMethodDescriptor y_P_y.desc).map (fun d => d.parameters.length) = some 1 := by decide +kernel
abbrev b_P_inOrder : ByteArray := prog_4_method_6_code
def y_P_inOrder : MethodName := ⟨R_P, "inOrder", "(I)I"⟩
abbrev w_P_inOrder : List Cond := .code y_P_inOrder b_P_inOrder 2 (some .int) :: BIG
theorem hd_P_inOrder : y_P_inOrder.cls ≠ "java/lang/invoke/MethodHandle" ∧ y_P_inOrder.cls ≠ "java/lang/invoke/VarHandle" ∧ (parseMethodDescriptor y_P_inOrder.desc).map (fun d => d.parameters.length) = some 1 := by decide +kernel
abbrev b_P_slotAt : ByteArray := prog_4_method_7_code
def y_P_slotAt : MethodName := ⟨R_P, "slotAt", "(II)I"⟩
abbrev w_P_slotAt : List Cond := .code y_P_slotAt b_P_slotAt 4 (some .int) :: BIG
theorem hd_P_slotAt : y_P_slotAt.cls ≠ "java/lang/invoke/MethodHandle" ∧ y_P_slotAt.cls ≠ "java/lang/invoke/VarHandle" ∧ (parseMethodDescriptor y_P_slotAt.desc).map (fun d => d.parameters.length) = some 2 := by decide +kernel
abbrev b_P_freeSlot : ByteArray := prog_4_method_8_code
def y_P_freeSlot : MethodName := ⟨R_P, "freeSlot", "()I"⟩
abbrev w_P_freeSlot : List Cond := .code y_P_freeSlot b_P_freeSlot 2 (some .int) :: BIG
theorem hd_P_freeSlot : y_P_freeSlot.cls ≠ "java/lang/invoke/MethodHandle" ∧ y_P_freeSlot.cls ≠ "java/lang/invoke/VarHandle" ∧ (parseMethodDescriptor y_P_freeSlot.desc).map (fun d => d.parameters.length) = some 0 := by decide +kernel
abbrev b_P_put : ByteArray := prog_4_method_9_code
def y_P_put : MethodName := ⟨R_P, "put", "(III)V"⟩
abbrev w_P_put : List Cond := .code y_P_put b_P_put 5 none :: BIG
theorem hd_P_put : y_P_put.cls ≠ "java/lang/invoke/MethodHandle" ∧ y_P_put.cls ≠ "java/lang/invoke/VarHandle" ∧ (parseMethodDescriptor y_P_put.desc).map (fun d => d.parameters.length) = some 3 := by decide +kernel
abbrev b_P_drop : ByteArray := prog_4_method_10_code
def y_P_drop : MethodName := ⟨R_P, "drop", "(I)V"⟩
abbrev w_P_drop : List Cond := .code y_P_drop b_P_drop 4 none :: BIG
theorem hd_P_drop : y_P_drop.cls ≠ "java/lang/invoke/MethodHandle" ∧ y_P_drop.cls ≠ "java/lang/invoke/VarHandle" ∧ (parseMethodDescriptor y_P_drop.desc).map (fun d => d.parameters.length) = some 1 := by decide +kernel
abbrev b_P_isEarlier : ByteArray := prog_4_method_11_code
def y_P_isEarlier : MethodName := ⟨R_P, "isEarlier", "(II)Z"⟩
abbrev w_P_isEarlier : List Cond := .code y_P_isEarlier b_P_isEarlier 3 (some .boolean) :: BIG
theorem hd_P_isEarlier : y_P_isEarlier.cls ≠ "java/lang/invoke/MethodHandle" ∧ y_P_isEarlier.cls ≠ "java/lang/invoke/VarHandle" ∧ (parseMethodDescriptor y_P_isEarlier.desc).map (fun d => d.parameters.length) = some 2 := by decide +kernel
abbrev b_P_squaredDistance : ByteArray := prog_4_method_12_code
def y_P_squaredDistance : MethodName := ⟨R_P, "squaredDistance", "(III)J"⟩
abbrev w_P_squaredDistance : List Cond := .code y_P_squaredDistance b_P_squaredDistance 8 (some .long) :: BIG
theorem hd_P_squaredDistance : y_P_squaredDistance.cls ≠ "java/lang/invoke/MethodHandle" ∧ y_P_squaredDistance.cls ≠ "java/lang/invoke/VarHandle" ∧ (parseMethodDescriptor y_P_squaredDistance.desc).map (fun d => d.parameters.length) = some 3 := by decide +kernel
abbrev b_P_crossTo : ByteArray := prog_4_method_13_code
def y_P_crossTo : MethodName := ⟨R_P, "crossTo", "(IIII)J"⟩
abbrev w_P_crossTo : List Cond := .code y_P_crossTo b_P_crossTo 13 (some .long) :: BIG
theorem hd_P_crossTo : y_P_crossTo.cls ≠ "java/lang/invoke/MethodHandle" ∧ y_P_crossTo.cls ≠ "java/lang/invoke/VarHandle" ∧ (parseMethodDescriptor y_P_crossTo.desc).map (fun d => d.parameters.length) = some 4 := by decide +kernel
abbrev b_P_doubleArea : ByteArray := prog_4_method_14_code
def y_P_doubleArea : MethodName := ⟨R_P, "doubleArea", "(III)J"⟩
abbrev w_P_doubleArea : List Cond := .code y_P_doubleArea b_P_doubleArea 4 (some .long) :: BIG
theorem hd_P_doubleArea : y_P_doubleArea.cls ≠ "java/lang/invoke/MethodHandle" ∧ y_P_doubleArea.cls ≠ "java/lang/invoke/VarHandle" ∧ (parseMethodDescriptor y_P_doubleArea.desc).map (fun d => d.parameters.length) = some 3 := by decide +kernel
abbrev b_P_side : ByteArray := prog_4_method_15_code
def y_P_side : MethodName := ⟨R_P, "side", "(III)I"⟩
abbrev w_P_side : List Cond := .code y_P_side b_P_side 4 (some .int) :: BIG
theorem hd_P_side : y_P_side.cls ≠ "java/lang/invoke/MethodHandle" ∧ y_P_side.cls ≠ "java/lang/invoke/VarHandle" ∧ (parseMethodDescriptor y_P_side.desc).map (fun d => d.parameters.length) = some 3 := by decide +kernel
abbrev b_P_circleSide : ByteArray := prog_4_method_16_code
def y_P_circleSide : MethodName := ⟨R_P, "circleSide", "(IIII)I"⟩
abbrev w_P_circleSide : List Cond := .code y_P_circleSide b_P_circleSide 17 (some .int) :: BIG
theorem hd_P_circleSide : y_P_circleSide.cls ≠ "java/lang/invoke/MethodHandle" ∧ y_P_circleSide.cls ≠ "java/lang/invoke/VarHandle" ∧ (parseMethodDescriptor y_P_circleSide.desc).map (fun d => d.parameters.length) = some 4 := by decide +kernel
abbrev b_P_signOfProducts : ByteArray := prog_4_method_17_code
def y_P_signOfProducts : MethodName := ⟨R_P, "signOfProducts", "(JJJJJJ)I"⟩
abbrev w_P_signOfProducts : List Cond := .code y_P_signOfProducts b_P_signOfProducts 18 (some .int) :: BIG
theorem hd_P_signOfProducts : y_P_signOfProducts.cls ≠ "java/lang/invoke/MethodHandle" ∧ y_P_signOfProducts.cls ≠ "java/lang/invoke/VarHandle" ∧ (parseMethodDescriptor y_P_signOfProducts.desc).map (fun d => d.parameters.length) = some 6 := by decide +kernel
abbrev b_L_law : ByteArray := code
def y_L_law : MethodName := ⟨R_L, "law", "([I)Z"⟩
theorem hd_L_law : y_L_law.cls ≠ "java/lang/invoke/MethodHandle" ∧ y_L_law.cls ≠ "java/lang/invoke/VarHandle" ∧ (parseMethodDescriptor y_L_law.desc).map (fun d => d.parameters.length) = some 1 := by decide +kernel
abbrev b_J_fill : ByteArray := prog_7_method_103_code
def y_J_fill : MethodName := ⟨R_J, "fill", "([II)V"⟩
abbrev w_J_fill : List Cond := .code y_J_fill b_J_fill 4 none :: BIG
theorem hd_J_fill : y_J_fill.cls ≠ "java/lang/invoke/MethodHandle" ∧ y_J_fill.cls ≠ "java/lang/invoke/VarHandle" ∧ (parseMethodDescriptor y_J_fill.desc).map (fun d => d.parameters.length) = some 2 := by decide +kernel
