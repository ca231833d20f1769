/-! Names, by program out of the Statement: classes R_, fields T_, types ty_, methods y_ with their code c_; the words that a
contract may use: all of the tables' words that stand. -/
def WS : List Cond := lw_tbl.filter goodWord
theorem ws_at {w : Cond} (i : Nat) (h : lw_tbl[i]? = some w) (g : goodWord w = true) : w ∈ WS := List.mem_filter.mpr ⟨List.mem_of_getElem? h, g⟩
theorem ws_good : ∀ w ∈ WS, goodWord w = true := fun _ h => (List.mem_filter.mp h).2
theorem ws_in {c0 c1 : Cond} (h : c1 ∈ WS) : GoodIn (c0 :: WS) (c1 :: WS) := fun w hw => by
  have hm : w ∈ WS := by
    rcases List.mem_cons.mp hw with rfl | h1
    · exact h
    · exact h1
  exact ⟨List.mem_cons_of_mem _ hm, good_of_word (ws_good w hm)⟩
def R_E : String := "ExtentGroup"
def R_C : String := "ExtentGroup$Copy"
def R_D : String := "ExtentGroup$Disk"
def R_L : String := "ExtentGroup$Layout"
def R_V : String := "ExtentGroup$Move"
def R_U : String := "ExtentGroup$Volume"
def R_M : String := "ExtentGroupModel"
def R_W : String := "ExtentGroupLaw"
def R_JI : String := "java/lang/Integer"
def R_JM : String := "java/lang/Math"
def R_JA : String := "java/util/Arrays"
def R_JO : String := "java/lang/Object"
def R_JS : String := "java/lang/System"
def T_C : u_T := fun k => match k with
  | 0 => ("ExtentGroup$Copy", "number", "I", true)
  | 1 => ("ExtentGroup$Copy", "stamp", "I", true)
  | _ => ("ExtentGroup$Copy", "layout", "LExtentGroup$Layout;", true)
def ty_C : Nat → FieldType := fun k => match k with
  | 0 => .int
  | 1 => .int
  | _ => .object "ExtentGroup$Layout"
theorem nm_C : ∀ a, a < 3 → ∀ b, b < 3 → a ≠ b → (T_C a).2.1 ≠ (T_C b).2.1 := by decide +kernel
theorem ty_C_ok : ∀ k, k < 3 → parseFieldDescriptor (T_C k).2.2.1 = some (ty_C k) := by decide +kernel
set_option maxRecDepth 100000 in
theorem in_C : ∀ w ∈ u_ws R_C T_C 3, w ∈ WS := by
  intro w hw
  obtain ⟨k, hk, rfl⟩ := List.mem_map.mp hw
  have hk : k < 3 := List.mem_range.mp hk
  rcases (show k = 0 ∨ k = 1 ∨ k = 2 by omega) with rfl | rfl | rfl
  · exact ws_at 109 rfl rfl
  · exact ws_at 111 rfl rfl
  · exact ws_at 113 rfl rfl
def T_D : u_T := fun k => match k with
  | 0 => ("ExtentGroup$Disk", "cells", "[I", true)
  | 1 => ("ExtentGroup$Disk", "copies", "[LExtentGroup$Copy;", true)
  | 2 => ("ExtentGroup$Disk", "isTorn", "[Z", true)
  | 3 => ("ExtentGroup$Disk", "nextSlot", "I", false)
  | _ => ("ExtentGroup$Disk", "isPresent", "Z", false)
def ty_D : Nat → FieldType := fun k => match k with
  | 0 => (.array .int)
  | 1 => (.array (.object "ExtentGroup$Copy"))
  | 2 => (.array .boolean)
  | 3 => .int
  | _ => .boolean
theorem nm_D : ∀ a, a < 5 → ∀ b, b < 5 → a ≠ b → (T_D a).2.1 ≠ (T_D b).2.1 := by decide +kernel
theorem ty_D_ok : ∀ k, k < 5 → parseFieldDescriptor (T_D k).2.2.1 = some (ty_D k) := by decide +kernel
set_option maxRecDepth 100000 in
theorem in_D : ∀ w ∈ u_ws R_D T_D 5, w ∈ WS := by
  intro w hw
  obtain ⟨k, hk, rfl⟩ := List.mem_map.mp hw
  have hk : k < 5 := List.mem_range.mp hk
  rcases (show k = 0 ∨ k = 1 ∨ k = 2 ∨ k = 3 ∨ k = 4 by omega) with rfl | rfl | rfl | rfl | rfl
  · exact ws_at 135 rfl rfl
  · exact ws_at 137 rfl rfl
  · exact ws_at 139 rfl rfl
  · exact ws_at 141 rfl rfl
  · exact ws_at 143 rfl rfl
def T_L : u_T := fun k => match k with
  | 0 => ("ExtentGroup$Layout", "volumes", "[LExtentGroup$Volume;", true)
  | _ => ("ExtentGroup$Layout", "move", "LExtentGroup$Move;", true)
def ty_L : Nat → FieldType := fun k => match k with
  | 0 => (.array (.object "ExtentGroup$Volume"))
  | _ => .object "ExtentGroup$Move"
theorem nm_L : ∀ a, a < 2 → ∀ b, b < 2 → a ≠ b → (T_L a).2.1 ≠ (T_L b).2.1 := by decide +kernel
theorem ty_L_ok : ∀ k, k < 2 → parseFieldDescriptor (T_L k).2.2.1 = some (ty_L k) := by decide +kernel
set_option maxRecDepth 100000 in
theorem in_L : ∀ w ∈ u_ws R_L T_L 2, w ∈ WS := by
  intro w hw
  obtain ⟨k, hk, rfl⟩ := List.mem_map.mp hw
  have hk : k < 2 := List.mem_range.mp hk
  rcases (show k = 0 ∨ k = 1 by omega) with rfl | rfl
  · exact ws_at 94 rfl rfl
  · exact ws_at 96 rfl rfl
def T_U : u_T := fun k => match k with
  | 0 => ("ExtentGroup$Volume", "width", "I", true)
  | 1 => ("ExtentGroup$Volume", "chunk", "I", true)
  | 2 => ("ExtentGroup$Volume", "rowCount", "I", true)
  | _ => ("ExtentGroup$Volume", "places", "[I", true)
def ty_U : Nat → FieldType := fun k => match k with
  | 0 => .int
  | 1 => .int
  | 2 => .int
  | _ => (.array .int)
theorem nm_U : ∀ a, a < 4 → ∀ b, b < 4 → a ≠ b → (T_U a).2.1 ≠ (T_U b).2.1 := by decide +kernel
theorem ty_U_ok : ∀ k, k < 4 → parseFieldDescriptor (T_U k).2.2.1 = some (ty_U k) := by decide +kernel
set_option maxRecDepth 100000 in
theorem in_U : ∀ w ∈ u_ws R_U T_U 4, w ∈ WS := by
  intro w hw
  obtain ⟨k, hk, rfl⟩ := List.mem_map.mp hw
  have hk : k < 4 := List.mem_range.mp hk
  rcases (show k = 0 ∨ k = 1 ∨ k = 2 ∨ k = 3 by omega) with rfl | rfl | rfl | rfl
  · exact ws_at 204 rfl rfl
  · exact ws_at 206 rfl rfl
  · exact ws_at 208 rfl rfl
  · exact ws_at 210 rfl rfl
def T_E : u_T := fun k => match k with
  | 0 => ("ExtentGroup", "extentCount", "I", true)
  | 1 => ("ExtentGroup", "disks", "[LExtentGroup$Disk;", true)
  | 2 => ("ExtentGroup", "taken", "[I", true)
  | 3 => ("ExtentGroup", "present", "LExtentGroup$Copy;", false)
  | 4 => ("ExtentGroup", "copied", "I", false)
  | 5 => ("ExtentGroup", "lastStamp", "I", false)
  | 6 => ("ExtentGroup", "up", "Z", false)
  | _ => ("ExtentGroup", "actsBeforeStop", "I", false)
def ty_E : Nat → FieldType := fun k => match k with
  | 0 => .int
  | 1 => (.array (.object "ExtentGroup$Disk"))
  | 2 => (.array .int)
  | 3 => .object "ExtentGroup$Copy"
  | 4 => .int
  | 5 => .int
  | 6 => .boolean
  | _ => .int
theorem nm_E : ∀ a, a < 8 → ∀ b, b < 8 → a ≠ b → (T_E a).2.1 ≠ (T_E b).2.1 := by decide +kernel
theorem ty_E_ok : ∀ k, k < 8 → parseFieldDescriptor (T_E k).2.2.1 = some (ty_E k) := by decide +kernel
set_option maxRecDepth 100000 in
theorem in_E : ∀ w ∈ u_ws R_E T_E 8, w ∈ WS := by
  intro w hw
  obtain ⟨k, hk, rfl⟩ := List.mem_map.mp hw
  have hk : k < 8 := List.mem_range.mp hk
  rcases (show k = 0 ∨ k = 1 ∨ k = 2 ∨ k = 3 ∨ k = 4 ∨ k = 5 ∨ k = 6 ∨ k = 7 by omega) with rfl | rfl | rfl | rfl | rfl | rfl | rfl | rfl
  · exact ws_at 156 rfl rfl
  · exact ws_at 158 rfl rfl
  · exact ws_at 160 rfl rfl
  · exact ws_at 162 rfl rfl
  · exact ws_at 164 rfl rfl
  · exact ws_at 166 rfl rfl
  · exact ws_at 168 rfl rfl
  · exact ws_at 170 rfl rfl
def T_V : u_T := fun k => match k with
  | 0 => ("ExtentGroup$Move", "volume", "I", true)
  | 1 => ("ExtentGroup$Move", "extent", "I", true)
  | 2 => ("ExtentGroup$Move", "source", "I", true)
  | _ => ("ExtentGroup$Move", "target", "I", true)
def ty_V : Nat → FieldType := fun k => match k with
  | 0 => .int
  | 1 => .int
  | 2 => .int
  | _ => .int
theorem nm_V : ∀ a, a < 4 → ∀ b, b < 4 → a ≠ b → (T_V a).2.1 ≠ (T_V b).2.1 := by decide +kernel
theorem ty_V_ok : ∀ k, k < 4 → parseFieldDescriptor (T_V k).2.2.1 = some (ty_V k) := by decide +kernel
set_option maxRecDepth 100000 in
theorem in_V : ∀ w ∈ u_ws R_V T_V 4, w ∈ WS := by
  intro w hw
  obtain ⟨k, hk, rfl⟩ := List.mem_map.mp hw
  have hk : k < 4 := List.mem_range.mp hk
  rcases (show k = 0 ∨ k = 1 ∨ k = 2 ∨ k = 3 by omega) with rfl | rfl | rfl | rfl
  · exact ws_at 362 rfl rfl
  · exact ws_at 364 rfl rfl
  · exact ws_at 366 rfl rfl
  · exact ws_at 368 rfl rfl
def T_M : u_T := fun k => match k with
  | 0 => ("ExtentGroupModel", "n", "I", true)
  | 1 => ("ExtentGroupModel", "extents", "I", true)
  | 2 => ("ExtentGroupModel", "here", "[Z", true)
  | 3 => ("ExtentGroupModel", "cell", "[I", true)
  | 4 => ("ExtentGroupModel", "maps", "[I", true)
  | 5 => ("ExtentGroupModel", "slotNumber", "[I", true)
  | 6 => ("ExtentGroupModel", "slotStamp", "[I", true)
  | 7 => ("ExtentGroupModel", "written", "[I", true)
  | 8 => ("ExtentGroupModel", "number", "I", false)
  | 9 => ("ExtentGroupModel", "stamp", "I", false)
  | 10 => ("ExtentGroupModel", "stamps", "I", false)
  | 11 => ("ExtentGroupModel", "up", "Z", false)
  | 12 => ("ExtentGroupModel", "copied", "I", false)
  | 13 => ("ExtentGroupModel", "armed", "Z", false)
  | _ => ("ExtentGroupModel", "until", "I", false)
def ty_M : Nat → FieldType := fun k => match k with
  | 0 => .int
  | 1 => .int
  | 2 => (.array .boolean)
  | 3 => (.array .int)
  | 4 => (.array .int)
  | 5 => (.array .int)
  | 6 => (.array .int)
  | 7 => (.array .int)
  | 8 => .int
  | 9 => .int
  | 10 => .int
  | 11 => .boolean
  | 12 => .int
  | 13 => .boolean
  | _ => .int
theorem nm_M : ∀ a, a < 15 → ∀ b, b < 15 → a ≠ b → (T_M a).2.1 ≠ (T_M b).2.1 := by decide +kernel
theorem ty_M_ok : ∀ k, k < 15 → parseFieldDescriptor (T_M k).2.2.1 = some (ty_M k) := by decide +kernel
set_option maxRecDepth 100000 in
theorem in_M : ∀ w ∈ u_ws R_M T_M 15, w ∈ WS := by
  intro w hw
  obtain ⟨k, hk, rfl⟩ := List.mem_map.mp hw
  have hk : k < 15 := List.mem_range.mp hk
  rcases (show k = 0 ∨ k = 1 ∨ k = 2 ∨ k = 3 ∨ k = 4 ∨ k = 5 ∨ k = 6 ∨ k = 7 ∨ k = 8 ∨ k = 9 ∨ k = 10 ∨ k = 11 ∨ k = 12 ∨ k = 13 ∨ k = 14 by omega) with rfl | rfl | rfl | rfl | rfl | rfl | rfl | rfl | rfl | rfl | rfl | rfl | rfl | rfl | rfl
  · exact ws_at 507 rfl rfl
  · exact ws_at 509 rfl rfl
  · exact ws_at 511 rfl rfl
  · exact ws_at 513 rfl rfl
  · exact ws_at 515 rfl rfl
  · exact ws_at 517 rfl rfl
  · exact ws_at 519 rfl rfl
  · exact ws_at 521 rfl rfl
  · exact ws_at 523 rfl rfl
  · exact ws_at 525 rfl rfl
  · exact ws_at 527 rfl rfl
  · exact ws_at 529 rfl rfl
  · exact ws_at 531 rfl rfl
  · exact ws_at 533 rfl rfl
  · exact ws_at 535 rfl rfl
abbrev vcl : List vw_C := [(R_C, T_C, 3), (R_D, T_D, 5), (R_L, T_L, 2), (R_U, T_U, 4), (R_E, T_E, 8), (R_V, T_V, 4), (R_M, T_M, 15)]
abbrev c_E_init : ByteArray := prog_1_method_1_code
def y_E_init : MethodName := ⟨R_E, "<init>", "(II)V"⟩
theorem hd_E_init : y_E_init.cls = R_E ∧ y_E_init.cls ≠ "java/lang/invoke/MethodHandle" ∧ y_E_init.cls ≠ "java/lang/invoke/VarHandle" ∧ (parseMethodDescriptor y_E_init.desc).map (fun d => d.parameters.length) = some 2 := ⟨rfl, by decide +kernel, by decide +kernel, by decide +kernel⟩
abbrev c_JM_max : ByteArray := prog_11_method_65_code
def y_JM_max : MethodName := ⟨R_JM, "max", "(II)I"⟩
theorem hd_JM_max : y_JM_max.cls = R_JM ∧ y_JM_max.cls ≠ "java/lang/invoke/MethodHandle" ∧ y_JM_max.cls ≠ "java/lang/invoke/VarHandle" ∧ (parseMethodDescriptor y_JM_max.desc).map (fun d => d.parameters.length) = some 2 := ⟨rfl, by decide +kernel, by decide +kernel, by decide +kernel⟩
abbrev c_JM_min : ByteArray := prog_11_method_69_code
def y_JM_min : MethodName := ⟨R_JM, "min", "(II)I"⟩
theorem hd_JM_min : y_JM_min.cls = R_JM ∧ y_JM_min.cls ≠ "java/lang/invoke/MethodHandle" ∧ y_JM_min.cls ≠ "java/lang/invoke/VarHandle" ∧ (parseMethodDescriptor y_JM_min.desc).map (fun d => d.parameters.length) = some 2 := ⟨rfl, by decide +kernel, by decide +kernel, by decide +kernel⟩
abbrev c_L_init : ByteArray := prog_4_method_1_code
def y_L_init : MethodName := ⟨R_L, "<init>", "([LExtentGroup$Volume;LExtentGroup$Move;)V"⟩
theorem hd_L_init : y_L_init.cls = R_L ∧ y_L_init.cls ≠ "java/lang/invoke/MethodHandle" ∧ y_L_init.cls ≠ "java/lang/invoke/VarHandle" ∧ (parseMethodDescriptor y_L_init.desc).map (fun d => d.parameters.length) = some 2 := ⟨rfl, by decide +kernel, by decide +kernel, by decide +kernel⟩
abbrev c_C_init : ByteArray := prog_2_method_1_code
def y_C_init : MethodName := ⟨R_C, "<init>", "(IILExtentGroup$Layout;)V"⟩
theorem hd_C_init : y_C_init.cls = R_C ∧ y_C_init.cls ≠ "java/lang/invoke/MethodHandle" ∧ y_C_init.cls ≠ "java/lang/invoke/VarHandle" ∧ (parseMethodDescriptor y_C_init.desc).map (fun d => d.parameters.length) = some 3 := ⟨rfl, by decide +kernel, by decide +kernel, by decide +kernel⟩
abbrev c_D_init : ByteArray := prog_3_method_1_code
def y_D_init : MethodName := ⟨R_D, "<init>", "(ILExtentGroup$Copy;)V"⟩
theorem hd_D_init : y_D_init.cls = R_D ∧ y_D_init.cls ≠ "java/lang/invoke/MethodHandle" ∧ y_D_init.cls ≠ "java/lang/invoke/VarHandle" ∧ (parseMethodDescriptor y_D_init.desc).map (fun d => d.parameters.length) = some 2 := ⟨rfl, by decide +kernel, by decide +kernel, by decide +kernel⟩
abbrev c_E_create : ByteArray := prog_1_method_2_code
def y_E_create : MethodName := ⟨R_E, "create", "(III)I"⟩
theorem hd_E_create : y_E_create.cls = R_E ∧ y_E_create.cls ≠ "java/lang/invoke/MethodHandle" ∧ y_E_create.cls ≠ "java/lang/invoke/VarHandle" ∧ (parseMethodDescriptor y_E_create.desc).map (fun d => d.parameters.length) = some 3 := ⟨rfl, by decide +kernel, by decide +kernel, by decide +kernel⟩
abbrev c_E_isShape : ByteArray := prog_1_method_21_code
def y_E_isShape : MethodName := ⟨R_E, "isShape", "(II)Z"⟩
theorem hd_E_isShape : y_E_isShape.cls = R_E ∧ y_E_isShape.cls ≠ "java/lang/invoke/MethodHandle" ∧ y_E_isShape.cls ≠ "java/lang/invoke/VarHandle" ∧ (parseMethodDescriptor y_E_isShape.desc).map (fun d => d.parameters.length) = some 2 := ⟨rfl, by decide +kernel, by decide +kernel, by decide +kernel⟩
abbrev c_E_isFew : ByteArray := prog_1_method_24_code
def y_E_isFew : MethodName := ⟨R_E, "isFew", "()Z"⟩
theorem hd_E_isFew : y_E_isFew.cls = R_E ∧ y_E_isFew.cls ≠ "java/lang/invoke/MethodHandle" ∧ y_E_isFew.cls ≠ "java/lang/invoke/VarHandle" ∧ (parseMethodDescriptor y_E_isFew.desc).map (fun d => d.parameters.length) = some 0 := ⟨rfl, by decide +kernel, by decide +kernel, by decide +kernel⟩
abbrev c_E_isQuorum : ByteArray := prog_1_method_25_code
def y_E_isQuorum : MethodName := ⟨R_E, "isQuorum", "(I)Z"⟩
theorem hd_E_isQuorum : y_E_isQuorum.cls = R_E ∧ y_E_isQuorum.cls ≠ "java/lang/invoke/MethodHandle" ∧ y_E_isQuorum.cls ≠ "java/lang/invoke/VarHandle" ∧ (parseMethodDescriptor y_E_isQuorum.desc).map (fun d => d.parameters.length) = some 1 := ⟨rfl, by decide +kernel, by decide +kernel, by decide +kernel⟩
abbrev c_L_leastAbsent : ByteArray := prog_4_method_3_code
def y_L_leastAbsent : MethodName := ⟨R_L, "leastAbsent", "()I"⟩
theorem hd_L_leastAbsent : y_L_leastAbsent.cls = R_L ∧ y_L_leastAbsent.cls ≠ "java/lang/invoke/MethodHandle" ∧ y_L_leastAbsent.cls ≠ "java/lang/invoke/VarHandle" ∧ (parseMethodDescriptor y_L_leastAbsent.desc).map (fun d => d.parameters.length) = some 0 := ⟨rfl, by decide +kernel, by decide +kernel, by decide +kernel⟩
abbrev c_U_init : ByteArray := prog_6_method_1_code
def y_U_init : MethodName := ⟨R_U, "<init>", "(III[I)V"⟩
theorem hd_U_init : y_U_init.cls = R_U ∧ y_U_init.cls ≠ "java/lang/invoke/MethodHandle" ∧ y_U_init.cls ≠ "java/lang/invoke/VarHandle" ∧ (parseMethodDescriptor y_U_init.desc).map (fun d => d.parameters.length) = some 4 := ⟨rfl, by decide +kernel, by decide +kernel, by decide +kernel⟩
abbrev c_E_takeRows : ByteArray := prog_1_method_41_code
def y_E_takeRows : MethodName := ⟨R_E, "takeRows", "(LExtentGroup$Volume;I)Z"⟩
theorem hd_E_takeRows : y_E_takeRows.cls = R_E ∧ y_E_takeRows.cls ≠ "java/lang/invoke/MethodHandle" ∧ y_E_takeRows.cls ≠ "java/lang/invoke/VarHandle" ∧ (parseMethodDescriptor y_E_takeRows.desc).map (fun d => d.parameters.length) = some 2 := ⟨rfl, by decide +kernel, by decide +kernel, by decide +kernel⟩
abbrev c_E_markTaken : ByteArray := prog_1_method_37_code
def y_E_markTaken : MethodName := ⟨R_E, "markTaken", "()V"⟩
theorem hd_E_markTaken : y_E_markTaken.cls = R_E ∧ y_E_markTaken.cls ≠ "java/lang/invoke/MethodHandle" ∧ y_E_markTaken.cls ≠ "java/lang/invoke/VarHandle" ∧ (parseMethodDescriptor y_E_markTaken.desc).map (fun d => d.parameters.length) = some 0 := ⟨rfl, by decide +kernel, by decide +kernel, by decide +kernel⟩
abbrev c_JA_fill : ByteArray := prog_13_method_103_code
def y_JA_fill : MethodName := ⟨R_JA, "fill", "([II)V"⟩
theorem hd_JA_fill : y_JA_fill.cls = R_JA ∧ y_JA_fill.cls ≠ "java/lang/invoke/MethodHandle" ∧ y_JA_fill.cls ≠ "java/lang/invoke/VarHandle" ∧ (parseMethodDescriptor y_JA_fill.desc).map (fun d => d.parameters.length) = some 2 := ⟨rfl, by decide +kernel, by decide +kernel, by decide +kernel⟩
abbrev c_L_volumeAt : ByteArray := prog_4_method_2_code
def y_L_volumeAt : MethodName := ⟨R_L, "volumeAt", "(I)LExtentGroup$Volume;"⟩
theorem hd_L_volumeAt : y_L_volumeAt.cls = R_L ∧ y_L_volumeAt.cls ≠ "java/lang/invoke/MethodHandle" ∧ y_L_volumeAt.cls ≠ "java/lang/invoke/VarHandle" ∧ (parseMethodDescriptor y_L_volumeAt.desc).map (fun d => d.parameters.length) = some 1 := ⟨rfl, by decide +kernel, by decide +kernel, by decide +kernel⟩
abbrev c_E_take : ByteArray := prog_1_method_38_code
def y_E_take : MethodName := ⟨R_E, "take", "(I)V"⟩
theorem hd_E_take : y_E_take.cls = R_E ∧ y_E_take.cls ≠ "java/lang/invoke/MethodHandle" ∧ y_E_take.cls ≠ "java/lang/invoke/VarHandle" ∧ (parseMethodDescriptor y_E_take.desc).map (fun d => d.parameters.length) = some 1 := ⟨rfl, by decide +kernel, by decide +kernel, by decide +kernel⟩
abbrev c_E_pickDisks : ByteArray := prog_1_method_42_code
def y_E_pickDisks : MethodName := ⟨R_E, "pickDisks", "(I)I"⟩
theorem hd_E_pickDisks : y_E_pickDisks.cls = R_E ∧ y_E_pickDisks.cls ≠ "java/lang/invoke/MethodHandle" ∧ y_E_pickDisks.cls ≠ "java/lang/invoke/VarHandle" ∧ (parseMethodDescriptor y_E_pickDisks.desc).map (fun d => d.parameters.length) = some 1 := ⟨rfl, by decide +kernel, by decide +kernel, by decide +kernel⟩
abbrev c_E_roomiest : ByteArray := prog_1_method_43_code
def y_E_roomiest : MethodName := ⟨R_E, "roomiest", "(I)I"⟩
theorem hd_E_roomiest : y_E_roomiest.cls = R_E ∧ y_E_roomiest.cls ≠ "java/lang/invoke/MethodHandle" ∧ y_E_roomiest.cls ≠ "java/lang/invoke/VarHandle" ∧ (parseMethodDescriptor y_E_roomiest.desc).map (fun d => d.parameters.length) = some 1 := ⟨rfl, by decide +kernel, by decide +kernel, by decide +kernel⟩
abbrev c_E_freeCount : ByteArray := prog_1_method_39_code
def y_E_freeCount : MethodName := ⟨R_E, "freeCount", "(I)I"⟩
theorem hd_E_freeCount : y_E_freeCount.cls = R_E ∧ y_E_freeCount.cls ≠ "java/lang/invoke/MethodHandle" ∧ y_E_freeCount.cls ≠ "java/lang/invoke/VarHandle" ∧ (parseMethodDescriptor y_E_freeCount.desc).map (fun d => d.parameters.length) = some 1 := ⟨rfl, by decide +kernel, by decide +kernel, by decide +kernel⟩
abbrev c_JI_bitCount : ByteArray := prog_10_method_49_code
def y_JI_bitCount : MethodName := ⟨R_JI, "bitCount", "(I)I"⟩
theorem hd_JI_bitCount : y_JI_bitCount.cls = R_JI ∧ y_JI_bitCount.cls ≠ "java/lang/invoke/MethodHandle" ∧ y_JI_bitCount.cls ≠ "java/lang/invoke/VarHandle" ∧ (parseMethodDescriptor y_JI_bitCount.desc).map (fun d => d.parameters.length) = some 1 := ⟨rfl, by decide +kernel, by decide +kernel, by decide +kernel⟩
abbrev c_E_takeRow : ByteArray := prog_1_method_44_code
def y_E_takeRow : MethodName := ⟨R_E, "takeRow", "(I[II)V"⟩
theorem hd_E_takeRow : y_E_takeRow.cls = R_E ∧ y_E_takeRow.cls ≠ "java/lang/invoke/MethodHandle" ∧ y_E_takeRow.cls ≠ "java/lang/invoke/VarHandle" ∧ (parseMethodDescriptor y_E_takeRow.desc).map (fun d => d.parameters.length) = some 3 := ⟨rfl, by decide +kernel, by decide +kernel, by decide +kernel⟩
abbrev c_E_leastFree : ByteArray := prog_1_method_40_code
def y_E_leastFree : MethodName := ⟨R_E, "leastFree", "(I)I"⟩
theorem hd_E_leastFree : y_E_leastFree.cls = R_E ∧ y_E_leastFree.cls ≠ "java/lang/invoke/MethodHandle" ∧ y_E_leastFree.cls ≠ "java/lang/invoke/VarHandle" ∧ (parseMethodDescriptor y_E_leastFree.desc).map (fun d => d.parameters.length) = some 1 := ⟨rfl, by decide +kernel, by decide +kernel, by decide +kernel⟩
abbrev c_L_withVolume : ByteArray := prog_4_method_4_code
def y_L_withVolume : MethodName := ⟨R_L, "withVolume", "(ILExtentGroup$Volume;)LExtentGroup$Layout;"⟩
theorem hd_L_withVolume : y_L_withVolume.cls = R_L ∧ y_L_withVolume.cls ≠ "java/lang/invoke/MethodHandle" ∧ y_L_withVolume.cls ≠ "java/lang/invoke/VarHandle" ∧ (parseMethodDescriptor y_L_withVolume.desc).map (fun d => d.parameters.length) = some 2 := ⟨rfl, by decide +kernel, by decide +kernel, by decide +kernel⟩
abbrev c_L_volumesWith : ByteArray := prog_4_method_7_code
def y_L_volumesWith : MethodName := ⟨R_L, "volumesWith", "(ILExtentGroup$Volume;)[LExtentGroup$Volume;"⟩
theorem hd_L_volumesWith : y_L_volumesWith.cls = R_L ∧ y_L_volumesWith.cls ≠ "java/lang/invoke/MethodHandle" ∧ y_L_volumesWith.cls ≠ "java/lang/invoke/VarHandle" ∧ (parseMethodDescriptor y_L_volumesWith.desc).map (fun d => d.parameters.length) = some 2 := ⟨rfl, by decide +kernel, by decide +kernel, by decide +kernel⟩
abbrev c_E_commit : ByteArray := prog_1_method_33_code
def y_E_commit : MethodName := ⟨R_E, "commit", "(LExtentGroup$Layout;)Z"⟩
theorem hd_E_commit : y_E_commit.cls = R_E ∧ y_E_commit.cls ≠ "java/lang/invoke/MethodHandle" ∧ y_E_commit.cls ≠ "java/lang/invoke/VarHandle" ∧ (parseMethodDescriptor y_E_commit.desc).map (fun d => d.parameters.length) = some 1 := ⟨rfl, by decide +kernel, by decide +kernel, by decide +kernel⟩
abbrev c_D_slotBehind : ByteArray := prog_3_method_3_code
def y_D_slotBehind : MethodName := ⟨R_D, "slotBehind", "(LExtentGroup$Copy;)I"⟩
theorem hd_D_slotBehind : y_D_slotBehind.cls = R_D ∧ y_D_slotBehind.cls ≠ "java/lang/invoke/MethodHandle" ∧ y_D_slotBehind.cls ≠ "java/lang/invoke/VarHandle" ∧ (parseMethodDescriptor y_D_slotBehind.desc).map (fun d => d.parameters.length) = some 1 := ⟨rfl, by decide +kernel, by decide +kernel, by decide +kernel⟩
abbrev c_D_slotWith : ByteArray := prog_3_method_2_code
def y_D_slotWith : MethodName := ⟨R_D, "slotWith", "(LExtentGroup$Copy;)I"⟩
theorem hd_D_slotWith : y_D_slotWith.cls = R_D ∧ y_D_slotWith.cls ≠ "java/lang/invoke/MethodHandle" ∧ y_D_slotWith.cls ≠ "java/lang/invoke/VarHandle" ∧ (parseMethodDescriptor y_D_slotWith.desc).map (fun d => d.parameters.length) = some 1 := ⟨rfl, by decide +kernel, by decide +kernel, by decide +kernel⟩
abbrev c_C_isSame : ByteArray := prog_2_method_2_code
def y_C_isSame : MethodName := ⟨R_C, "isSame", "(LExtentGroup$Copy;)Z"⟩
theorem hd_C_isSame : y_C_isSame.cls = R_C ∧ y_C_isSame.cls ≠ "java/lang/invoke/MethodHandle" ∧ y_C_isSame.cls ≠ "java/lang/invoke/VarHandle" ∧ (parseMethodDescriptor y_C_isSame.desc).map (fun d => d.parameters.length) = some 1 := ⟨rfl, by decide +kernel, by decide +kernel, by decide +kernel⟩
abbrev c_E_putCopy : ByteArray := prog_1_method_32_code
def y_E_putCopy : MethodName := ⟨R_E, "putCopy", "(LExtentGroup$Disk;ILExtentGroup$Copy;)Z"⟩
theorem hd_E_putCopy : y_E_putCopy.cls = R_E ∧ y_E_putCopy.cls ≠ "java/lang/invoke/MethodHandle" ∧ y_E_putCopy.cls ≠ "java/lang/invoke/VarHandle" ∧ (parseMethodDescriptor y_E_putCopy.desc).map (fun d => d.parameters.length) = some 3 := ⟨rfl, by decide +kernel, by decide +kernel, by decide +kernel⟩
abbrev c_E_mayAct : ByteArray := prog_1_method_29_code
def y_E_mayAct : MethodName := ⟨R_E, "mayAct", "()Z"⟩
theorem hd_E_mayAct : y_E_mayAct.cls = R_E ∧ y_E_mayAct.cls ≠ "java/lang/invoke/MethodHandle" ∧ y_E_mayAct.cls ≠ "java/lang/invoke/VarHandle" ∧ (parseMethodDescriptor y_E_mayAct.desc).map (fun d => d.parameters.length) = some 0 := ⟨rfl, by decide +kernel, by decide +kernel, by decide +kernel⟩
abbrev c_E_goDown : ByteArray := prog_1_method_28_code
def y_E_goDown : MethodName := ⟨R_E, "goDown", "()V"⟩
theorem hd_E_goDown : y_E_goDown.cls = R_E ∧ y_E_goDown.cls ≠ "java/lang/invoke/MethodHandle" ∧ y_E_goDown.cls ≠ "java/lang/invoke/VarHandle" ∧ (parseMethodDescriptor y_E_goDown.desc).map (fun d => d.parameters.length) = some 0 := ⟨rfl, by decide +kernel, by decide +kernel, by decide +kernel⟩
abbrev c_E_extend : ByteArray := prog_1_method_3_code
def y_E_extend : MethodName := ⟨R_E, "extend", "(II)I"⟩
theorem hd_E_extend : y_E_extend.cls = R_E ∧ y_E_extend.cls ≠ "java/lang/invoke/MethodHandle" ∧ y_E_extend.cls ≠ "java/lang/invoke/VarHandle" ∧ (parseMethodDescriptor y_E_extend.desc).map (fun d => d.parameters.length) = some 2 := ⟨rfl, by decide +kernel, by decide +kernel, by decide +kernel⟩
abbrev c_E_isMoving : ByteArray := prog_1_method_26_code
def y_E_isMoving : MethodName := ⟨R_E, "isMoving", "(I)Z"⟩
theorem hd_E_isMoving : y_E_isMoving.cls = R_E ∧ y_E_isMoving.cls ≠ "java/lang/invoke/MethodHandle" ∧ y_E_isMoving.cls ≠ "java/lang/invoke/VarHandle" ∧ (parseMethodDescriptor y_E_isMoving.desc).map (fun d => d.parameters.length) = some 1 := ⟨rfl, by decide +kernel, by decide +kernel, by decide +kernel⟩
abbrev c_U_withRows : ByteArray := prog_6_method_2_code
def y_U_withRows : MethodName := ⟨R_U, "withRows", "(I)LExtentGroup$Volume;"⟩
theorem hd_U_withRows : y_U_withRows.cls = R_U ∧ y_U_withRows.cls ≠ "java/lang/invoke/MethodHandle" ∧ y_U_withRows.cls ≠ "java/lang/invoke/VarHandle" ∧ (parseMethodDescriptor y_U_withRows.desc).map (fun d => d.parameters.length) = some 1 := ⟨rfl, by decide +kernel, by decide +kernel, by decide +kernel⟩
abbrev c_JA_copyOf : ByteArray := prog_13_method_123_code
def y_JA_copyOf : MethodName := ⟨R_JA, "copyOf", "([II)[I"⟩
theorem hd_JA_copyOf : y_JA_copyOf.cls = R_JA ∧ y_JA_copyOf.cls ≠ "java/lang/invoke/MethodHandle" ∧ y_JA_copyOf.cls ≠ "java/lang/invoke/VarHandle" ∧ (parseMethodDescriptor y_JA_copyOf.desc).map (fun d => d.parameters.length) = some 2 := ⟨rfl, by decide +kernel, by decide +kernel, by decide +kernel⟩
abbrev c_E_reduce : ByteArray := prog_1_method_4_code
def y_E_reduce : MethodName := ⟨R_E, "reduce", "(II)I"⟩
theorem hd_E_reduce : y_E_reduce.cls = R_E ∧ y_E_reduce.cls ≠ "java/lang/invoke/MethodHandle" ∧ y_E_reduce.cls ≠ "java/lang/invoke/VarHandle" ∧ (parseMethodDescriptor y_E_reduce.desc).map (fun d => d.parameters.length) = some 2 := ⟨rfl, by decide +kernel, by decide +kernel, by decide +kernel⟩
abbrev c_E_move : ByteArray := prog_1_method_5_code
def y_E_move : MethodName := ⟨R_E, "move", "(III)I"⟩
theorem hd_E_move : y_E_move.cls = R_E ∧ y_E_move.cls ≠ "java/lang/invoke/MethodHandle" ∧ y_E_move.cls ≠ "java/lang/invoke/VarHandle" ∧ (parseMethodDescriptor y_E_move.desc).map (fun d => d.parameters.length) = some 3 := ⟨rfl, by decide +kernel, by decide +kernel, by decide +kernel⟩
abbrev c_U_hasExtent : ByteArray := prog_6_method_4_code
def y_U_hasExtent : MethodName := ⟨R_U, "hasExtent", "(I)Z"⟩
theorem hd_U_hasExtent : y_U_hasExtent.cls = R_U ∧ y_U_hasExtent.cls ≠ "java/lang/invoke/MethodHandle" ∧ y_U_hasExtent.cls ≠ "java/lang/invoke/VarHandle" ∧ (parseMethodDescriptor y_U_hasExtent.desc).map (fun d => d.parameters.length) = some 1 := ⟨rfl, by decide +kernel, by decide +kernel, by decide +kernel⟩
abbrev c_E_isDisk : ByteArray := prog_1_method_22_code
def y_E_isDisk : MethodName := ⟨R_E, "isDisk", "(I)Z"⟩
theorem hd_E_isDisk : y_E_isDisk.cls = R_E ∧ y_E_isDisk.cls ≠ "java/lang/invoke/MethodHandle" ∧ y_E_isDisk.cls ≠ "java/lang/invoke/VarHandle" ∧ (parseMethodDescriptor y_E_isDisk.desc).map (fun d => d.parameters.length) = some 1 := ⟨rfl, by decide +kernel, by decide +kernel, by decide +kernel⟩
abbrev c_E_diskOf : ByteArray := prog_1_method_23_code
def y_E_diskOf : MethodName := ⟨R_E, "diskOf", "(I)LExtentGroup$Disk;"⟩
theorem hd_E_diskOf : y_E_diskOf.cls = R_E ∧ y_E_diskOf.cls ≠ "java/lang/invoke/MethodHandle" ∧ y_E_diskOf.cls ≠ "java/lang/invoke/VarHandle" ∧ (parseMethodDescriptor y_E_diskOf.desc).map (fun d => d.parameters.length) = some 1 := ⟨rfl, by decide +kernel, by decide +kernel, by decide +kernel⟩
abbrev c_V_init : ByteArray := prog_5_method_1_code
def y_V_init : MethodName := ⟨R_V, "<init>", "(IIII)V"⟩
theorem hd_V_init : y_V_init.cls = R_V ∧ y_V_init.cls ≠ "java/lang/invoke/MethodHandle" ∧ y_V_init.cls ≠ "java/lang/invoke/VarHandle" ∧ (parseMethodDescriptor y_V_init.desc).map (fun d => d.parameters.length) = some 4 := ⟨rfl, by decide +kernel, by decide +kernel, by decide +kernel⟩
abbrev c_L_withMove : ByteArray := prog_4_method_5_code
def y_L_withMove : MethodName := ⟨R_L, "withMove", "(LExtentGroup$Move;)LExtentGroup$Layout;"⟩
theorem hd_L_withMove : y_L_withMove.cls = R_L ∧ y_L_withMove.cls ≠ "java/lang/invoke/MethodHandle" ∧ y_L_withMove.cls ≠ "java/lang/invoke/VarHandle" ∧ (parseMethodDescriptor y_L_withMove.desc).map (fun d => d.parameters.length) = some 1 := ⟨rfl, by decide +kernel, by decide +kernel, by decide +kernel⟩
abbrev c_E_step : ByteArray := prog_1_method_6_code
def y_E_step : MethodName := ⟨R_E, "step", "()I"⟩
theorem hd_E_step : y_E_step.cls = R_E ∧ y_E_step.cls ≠ "java/lang/invoke/MethodHandle" ∧ y_E_step.cls ≠ "java/lang/invoke/VarHandle" ∧ (parseMethodDescriptor y_E_step.desc).map (fun d => d.parameters.length) = some 0 := ⟨rfl, by decide +kernel, by decide +kernel, by decide +kernel⟩
abbrev c_L_withMoveDone : ByteArray := prog_4_method_6_code
def y_L_withMoveDone : MethodName := ⟨R_L, "withMoveDone", "()LExtentGroup$Layout;"⟩
theorem hd_L_withMoveDone : y_L_withMoveDone.cls = R_L ∧ y_L_withMoveDone.cls ≠ "java/lang/invoke/MethodHandle" ∧ y_L_withMoveDone.cls ≠ "java/lang/invoke/VarHandle" ∧ (parseMethodDescriptor y_L_withMoveDone.desc).map (fun d => d.parameters.length) = some 0 := ⟨rfl, by decide +kernel, by decide +kernel, by decide +kernel⟩
abbrev c_U_withPlace : ByteArray := prog_6_method_3_code
def y_U_withPlace : MethodName := ⟨R_U, "withPlace", "(II)LExtentGroup$Volume;"⟩
theorem hd_U_withPlace : y_U_withPlace.cls = R_U ∧ y_U_withPlace.cls ≠ "java/lang/invoke/MethodHandle" ∧ y_U_withPlace.cls ≠ "java/lang/invoke/VarHandle" ∧ (parseMethodDescriptor y_U_withPlace.desc).map (fun d => d.parameters.length) = some 2 := ⟨rfl, by decide +kernel, by decide +kernel, by decide +kernel⟩
abbrev c_E_cellAt : ByteArray := prog_1_method_30_code
def y_E_cellAt : MethodName := ⟨R_E, "cellAt", "(II)I"⟩
theorem hd_E_cellAt : y_E_cellAt.cls = R_E ∧ y_E_cellAt.cls ≠ "java/lang/invoke/MethodHandle" ∧ y_E_cellAt.cls ≠ "java/lang/invoke/VarHandle" ∧ (parseMethodDescriptor y_E_cellAt.desc).map (fun d => d.parameters.length) = some 2 := ⟨rfl, by decide +kernel, by decide +kernel, by decide +kernel⟩
abbrev c_E_putCell : ByteArray := prog_1_method_31_code
def y_E_putCell : MethodName := ⟨R_E, "putCell", "(III)Z"⟩
theorem hd_E_putCell : y_E_putCell.cls = R_E ∧ y_E_putCell.cls ≠ "java/lang/invoke/MethodHandle" ∧ y_E_putCell.cls ≠ "java/lang/invoke/VarHandle" ∧ (parseMethodDescriptor y_E_putCell.desc).map (fun d => d.parameters.length) = some 3 := ⟨rfl, by decide +kernel, by decide +kernel, by decide +kernel⟩
abbrev c_E_cancel : ByteArray := prog_1_method_7_code
def y_E_cancel : MethodName := ⟨R_E, "cancel", "()I"⟩
theorem hd_E_cancel : y_E_cancel.cls = R_E ∧ y_E_cancel.cls ≠ "java/lang/invoke/MethodHandle" ∧ y_E_cancel.cls ≠ "java/lang/invoke/VarHandle" ∧ (parseMethodDescriptor y_E_cancel.desc).map (fun d => d.parameters.length) = some 0 := ⟨rfl, by decide +kernel, by decide +kernel, by decide +kernel⟩
abbrev c_E_read : ByteArray := prog_1_method_8_code
def y_E_read : MethodName := ⟨R_E, "read", "(II)I"⟩
theorem hd_E_read : y_E_read.cls = R_E ∧ y_E_read.cls ≠ "java/lang/invoke/MethodHandle" ∧ y_E_read.cls ≠ "java/lang/invoke/VarHandle" ∧ (parseMethodDescriptor y_E_read.desc).map (fun d => d.parameters.length) = some 2 := ⟨rfl, by decide +kernel, by decide +kernel, by decide +kernel⟩
abbrev c_U_hasBlock : ByteArray := prog_6_method_5_code
def y_U_hasBlock : MethodName := ⟨R_U, "hasBlock", "(I)Z"⟩
theorem hd_U_hasBlock : y_U_hasBlock.cls = R_U ∧ y_U_hasBlock.cls ≠ "java/lang/invoke/MethodHandle" ∧ y_U_hasBlock.cls ≠ "java/lang/invoke/VarHandle" ∧ (parseMethodDescriptor y_U_hasBlock.desc).map (fun d => d.parameters.length) = some 1 := ⟨rfl, by decide +kernel, by decide +kernel, by decide +kernel⟩
abbrev c_U_extentOf : ByteArray := prog_6_method_6_code
def y_U_extentOf : MethodName := ⟨R_U, "extentOf", "(I)I"⟩
theorem hd_U_extentOf : y_U_extentOf.cls = R_U ∧ y_U_extentOf.cls ≠ "java/lang/invoke/MethodHandle" ∧ y_U_extentOf.cls ≠ "java/lang/invoke/VarHandle" ∧ (parseMethodDescriptor y_U_extentOf.desc).map (fun d => d.parameters.length) = some 1 := ⟨rfl, by decide +kernel, by decide +kernel, by decide +kernel⟩
abbrev c_U_cellOf : ByteArray := prog_6_method_7_code
def y_U_cellOf : MethodName := ⟨R_U, "cellOf", "(I)I"⟩
theorem hd_U_cellOf : y_U_cellOf.cls = R_U ∧ y_U_cellOf.cls ≠ "java/lang/invoke/MethodHandle" ∧ y_U_cellOf.cls ≠ "java/lang/invoke/VarHandle" ∧ (parseMethodDescriptor y_U_cellOf.desc).map (fun d => d.parameters.length) = some 1 := ⟨rfl, by decide +kernel, by decide +kernel, by decide +kernel⟩
abbrev c_E_write : ByteArray := prog_1_method_9_code
def y_E_write : MethodName := ⟨R_E, "write", "(III)I"⟩
theorem hd_E_write : y_E_write.cls = R_E ∧ y_E_write.cls ≠ "java/lang/invoke/MethodHandle" ∧ y_E_write.cls ≠ "java/lang/invoke/VarHandle" ∧ (parseMethodDescriptor y_E_write.desc).map (fun d => d.parameters.length) = some 3 := ⟨rfl, by decide +kernel, by decide +kernel, by decide +kernel⟩
abbrev c_E_copiedTo : ByteArray := prog_1_method_27_code
def y_E_copiedTo : MethodName := ⟨R_E, "copiedTo", "(III)I"⟩
theorem hd_E_copiedTo : y_E_copiedTo.cls = R_E ∧ y_E_copiedTo.cls ≠ "java/lang/invoke/MethodHandle" ∧ y_E_copiedTo.cls ≠ "java/lang/invoke/VarHandle" ∧ (parseMethodDescriptor y_E_copiedTo.desc).map (fun d => d.parameters.length) = some 3 := ⟨rfl, by decide +kernel, by decide +kernel, by decide +kernel⟩
abbrev c_E_pull : ByteArray := prog_1_method_10_code
def y_E_pull : MethodName := ⟨R_E, "pull", "(I)Z"⟩
theorem hd_E_pull : y_E_pull.cls = R_E ∧ y_E_pull.cls ≠ "java/lang/invoke/MethodHandle" ∧ y_E_pull.cls ≠ "java/lang/invoke/VarHandle" ∧ (parseMethodDescriptor y_E_pull.desc).map (fun d => d.parameters.length) = some 1 := ⟨rfl, by decide +kernel, by decide +kernel, by decide +kernel⟩
abbrev c_E_plug : ByteArray := prog_1_method_11_code
def y_E_plug : MethodName := ⟨R_E, "plug", "(I)Z"⟩
theorem hd_E_plug : y_E_plug.cls = R_E ∧ y_E_plug.cls ≠ "java/lang/invoke/MethodHandle" ∧ y_E_plug.cls ≠ "java/lang/invoke/VarHandle" ∧ (parseMethodDescriptor y_E_plug.desc).map (fun d => d.parameters.length) = some 1 := ⟨rfl, by decide +kernel, by decide +kernel, by decide +kernel⟩
abbrev c_E_arm : ByteArray := prog_1_method_12_code
def y_E_arm : MethodName := ⟨R_E, "arm", "(I)Z"⟩
theorem hd_E_arm : y_E_arm.cls = R_E ∧ y_E_arm.cls ≠ "java/lang/invoke/MethodHandle" ∧ y_E_arm.cls ≠ "java/lang/invoke/VarHandle" ∧ (parseMethodDescriptor y_E_arm.desc).map (fun d => d.parameters.length) = some 1 := ⟨rfl, by decide +kernel, by decide +kernel, by decide +kernel⟩
abbrev c_E_crash : ByteArray := prog_1_method_13_code
def y_E_crash : MethodName := ⟨R_E, "crash", "()Z"⟩
theorem hd_E_crash : y_E_crash.cls = R_E ∧ y_E_crash.cls ≠ "java/lang/invoke/MethodHandle" ∧ y_E_crash.cls ≠ "java/lang/invoke/VarHandle" ∧ (parseMethodDescriptor y_E_crash.desc).map (fun d => d.parameters.length) = some 0 := ⟨rfl, by decide +kernel, by decide +kernel, by decide +kernel⟩
abbrev c_E_activate : ByteArray := prog_1_method_14_code
def y_E_activate : MethodName := ⟨R_E, "activate", "()I"⟩
theorem hd_E_activate : y_E_activate.cls = R_E ∧ y_E_activate.cls ≠ "java/lang/invoke/MethodHandle" ∧ y_E_activate.cls ≠ "java/lang/invoke/VarHandle" ∧ (parseMethodDescriptor y_E_activate.desc).map (fun d => d.parameters.length) = some 0 := ⟨rfl, by decide +kernel, by decide +kernel, by decide +kernel⟩
abbrev c_E_choose : ByteArray := prog_1_method_34_code
def y_E_choose : MethodName := ⟨R_E, "choose", "()LExtentGroup$Copy;"⟩
theorem hd_E_choose : y_E_choose.cls = R_E ∧ y_E_choose.cls ≠ "java/lang/invoke/MethodHandle" ∧ y_E_choose.cls ≠ "java/lang/invoke/VarHandle" ∧ (parseMethodDescriptor y_E_choose.desc).map (fun d => d.parameters.length) = some 0 := ⟨rfl, by decide +kernel, by decide +kernel, by decide +kernel⟩
abbrev c_E_presentHolders : ByteArray := prog_1_method_35_code
def y_E_presentHolders : MethodName := ⟨R_E, "presentHolders", "(LExtentGroup$Copy;)I"⟩
theorem hd_E_presentHolders : y_E_presentHolders.cls = R_E ∧ y_E_presentHolders.cls ≠ "java/lang/invoke/MethodHandle" ∧ y_E_presentHolders.cls ≠ "java/lang/invoke/VarHandle" ∧ (parseMethodDescriptor y_E_presentHolders.desc).map (fun d => d.parameters.length) = some 1 := ⟨rfl, by decide +kernel, by decide +kernel, by decide +kernel⟩
abbrev c_E_bringTo : ByteArray := prog_1_method_36_code
def y_E_bringTo : MethodName := ⟨R_E, "bringTo", "(LExtentGroup$Disk;LExtentGroup$Copy;)Z"⟩
theorem hd_E_bringTo : y_E_bringTo.cls = R_E ∧ y_E_bringTo.cls ≠ "java/lang/invoke/MethodHandle" ∧ y_E_bringTo.cls ≠ "java/lang/invoke/VarHandle" ∧ (parseMethodDescriptor y_E_bringTo.desc).map (fun d => d.parameters.length) = some 2 := ⟨rfl, by decide +kernel, by decide +kernel, by decide +kernel⟩
abbrev c_E_where : ByteArray := prog_1_method_15_code
def y_E_where : MethodName := ⟨R_E, "where", "(II)I"⟩
theorem hd_E_where : y_E_where.cls = R_E ∧ y_E_where.cls ≠ "java/lang/invoke/MethodHandle" ∧ y_E_where.cls ≠ "java/lang/invoke/VarHandle" ∧ (parseMethodDescriptor y_E_where.desc).map (fun d => d.parameters.length) = some 2 := ⟨rfl, by decide +kernel, by decide +kernel, by decide +kernel⟩
abbrev c_E_rows : ByteArray := prog_1_method_16_code
def y_E_rows : MethodName := ⟨R_E, "rows", "(I)I"⟩
theorem hd_E_rows : y_E_rows.cls = R_E ∧ y_E_rows.cls ≠ "java/lang/invoke/MethodHandle" ∧ y_E_rows.cls ≠ "java/lang/invoke/VarHandle" ∧ (parseMethodDescriptor y_E_rows.desc).map (fun d => d.parameters.length) = some 1 := ⟨rfl, by decide +kernel, by decide +kernel, by decide +kernel⟩
abbrev c_E_free : ByteArray := prog_1_method_17_code
def y_E_free : MethodName := ⟨R_E, "free", "(I)I"⟩
theorem hd_E_free : y_E_free.cls = R_E ∧ y_E_free.cls ≠ "java/lang/invoke/MethodHandle" ∧ y_E_free.cls ≠ "java/lang/invoke/VarHandle" ∧ (parseMethodDescriptor y_E_free.desc).map (fun d => d.parameters.length) = some 1 := ⟨rfl, by decide +kernel, by decide +kernel, by decide +kernel⟩
abbrev c_E_moving : ByteArray := prog_1_method_18_code
def y_E_moving : MethodName := ⟨R_E, "moving", "()I"⟩
theorem hd_E_moving : y_E_moving.cls = R_E ∧ y_E_moving.cls ≠ "java/lang/invoke/MethodHandle" ∧ y_E_moving.cls ≠ "java/lang/invoke/VarHandle" ∧ (parseMethodDescriptor y_E_moving.desc).map (fun d => d.parameters.length) = some 0 := ⟨rfl, by decide +kernel, by decide +kernel, by decide +kernel⟩
abbrev c_E_sequence : ByteArray := prog_1_method_19_code
def y_E_sequence : MethodName := ⟨R_E, "sequence", "()I"⟩
theorem hd_E_sequence : y_E_sequence.cls = R_E ∧ y_E_sequence.cls ≠ "java/lang/invoke/MethodHandle" ∧ y_E_sequence.cls ≠ "java/lang/invoke/VarHandle" ∧ (parseMethodDescriptor y_E_sequence.desc).map (fun d => d.parameters.length) = some 0 := ⟨rfl, by decide +kernel, by decide +kernel, by decide +kernel⟩
abbrev c_E_slot : ByteArray := prog_1_method_20_code
def y_E_slot : MethodName := ⟨R_E, "slot", "(II)I"⟩
theorem hd_E_slot : y_E_slot.cls = R_E ∧ y_E_slot.cls ≠ "java/lang/invoke/MethodHandle" ∧ y_E_slot.cls ≠ "java/lang/invoke/VarHandle" ∧ (parseMethodDescriptor y_E_slot.desc).map (fun d => d.parameters.length) = some 2 := ⟨rfl, by decide +kernel, by decide +kernel, by decide +kernel⟩
abbrev c_W_cell : ByteArray := method_2_code
def y_W_cell : MethodName := ⟨R_W, "cell", "([II)I"⟩
theorem hd_W_cell : y_W_cell.cls = R_W ∧ y_W_cell.cls ≠ "java/lang/invoke/MethodHandle" ∧ y_W_cell.cls ≠ "java/lang/invoke/VarHandle" ∧ (parseMethodDescriptor y_W_cell.desc).map (fun d => d.parameters.length) = some 2 := ⟨rfl, by decide +kernel, by decide +kernel, by decide +kernel⟩
abbrev c_M_init : ByteArray := prog_8_method_1_code
def y_M_init : MethodName := ⟨R_M, "<init>", "(II)V"⟩
theorem hd_M_init : y_M_init.cls = R_M ∧ y_M_init.cls ≠ "java/lang/invoke/MethodHandle" ∧ y_M_init.cls ≠ "java/lang/invoke/VarHandle" ∧ (parseMethodDescriptor y_M_init.desc).map (fun d => d.parameters.length) = some 2 := ⟨rfl, by decide +kernel, by decide +kernel, by decide +kernel⟩
abbrev c_M_create : ByteArray := prog_8_method_22_code
def y_M_create : MethodName := ⟨R_M, "create", "(III)I"⟩
theorem hd_M_create : y_M_create.cls = R_M ∧ y_M_create.cls ≠ "java/lang/invoke/MethodHandle" ∧ y_M_create.cls ≠ "java/lang/invoke/VarHandle" ∧ (parseMethodDescriptor y_M_create.desc).map (fun d => d.parameters.length) = some 3 := ⟨rfl, by decide +kernel, by decide +kernel, by decide +kernel⟩
abbrev c_M_few : ByteArray := prog_8_method_20_code
def y_M_few : MethodName := ⟨R_M, "few", "()Z"⟩
theorem hd_M_few : y_M_few.cls = R_M ∧ y_M_few.cls ≠ "java/lang/invoke/MethodHandle" ∧ y_M_few.cls ≠ "java/lang/invoke/VarHandle" ∧ (parseMethodDescriptor y_M_few.desc).map (fun d => d.parameters.length) = some 0 := ⟨rfl, by decide +kernel, by decide +kernel, by decide +kernel⟩
abbrev c_M_quorum : ByteArray := prog_8_method_19_code
def y_M_quorum : MethodName := ⟨R_M, "quorum", "(I)Z"⟩
theorem hd_M_quorum : y_M_quorum.cls = R_M ∧ y_M_quorum.cls ≠ "java/lang/invoke/MethodHandle" ∧ y_M_quorum.cls ≠ "java/lang/invoke/VarHandle" ∧ (parseMethodDescriptor y_M_quorum.desc).map (fun d => d.parameters.length) = some 1 := ⟨rfl, by decide +kernel, by decide +kernel, by decide +kernel⟩
abbrev c_M_rowsOf : ByteArray := prog_8_method_6_code
def y_M_rowsOf : MethodName := ⟨R_M, "rowsOf", "(II)I"⟩
theorem hd_M_rowsOf : y_M_rowsOf.cls = R_M ∧ y_M_rowsOf.cls ≠ "java/lang/invoke/MethodHandle" ∧ y_M_rowsOf.cls ≠ "java/lang/invoke/VarHandle" ∧ (parseMethodDescriptor y_M_rowsOf.desc).map (fun d => d.parameters.length) = some 2 := ⟨rfl, by decide +kernel, by decide +kernel, by decide +kernel⟩
abbrev c_M_get : ByteArray := prog_8_method_2_code
def y_M_get : MethodName := ⟨R_M, "get", "(II)I"⟩
theorem hd_M_get : y_M_get.cls = R_M ∧ y_M_get.cls ≠ "java/lang/invoke/MethodHandle" ∧ y_M_get.cls ≠ "java/lang/invoke/VarHandle" ∧ (parseMethodDescriptor y_M_get.desc).map (fun d => d.parameters.length) = some 2 := ⟨rfl, by decide +kernel, by decide +kernel, by decide +kernel⟩
abbrev c_M_copyMap : ByteArray := prog_8_method_4_code
def y_M_copyMap : MethodName := ⟨R_M, "copyMap", "(II)V"⟩
theorem hd_M_copyMap : y_M_copyMap.cls = R_M ∧ y_M_copyMap.cls ≠ "java/lang/invoke/MethodHandle" ∧ y_M_copyMap.cls ≠ "java/lang/invoke/VarHandle" ∧ (parseMethodDescriptor y_M_copyMap.desc).map (fun d => d.parameters.length) = some 2 := ⟨rfl, by decide +kernel, by decide +kernel, by decide +kernel⟩
abbrev c_M_set : ByteArray := prog_8_method_3_code
def y_M_set : MethodName := ⟨R_M, "set", "(III)V"⟩
theorem hd_M_set : y_M_set.cls = R_M ∧ y_M_set.cls ≠ "java/lang/invoke/MethodHandle" ∧ y_M_set.cls ≠ "java/lang/invoke/VarHandle" ∧ (parseMethodDescriptor y_M_set.desc).map (fun d => d.parameters.length) = some 3 := ⟨rfl, by decide +kernel, by decide +kernel, by decide +kernel⟩
abbrev c_M_addRow : ByteArray := prog_8_method_13_code
def y_M_addRow : MethodName := ⟨R_M, "addRow", "(I)Z"⟩
theorem hd_M_addRow : y_M_addRow.cls = R_M ∧ y_M_addRow.cls ≠ "java/lang/invoke/MethodHandle" ∧ y_M_addRow.cls ≠ "java/lang/invoke/VarHandle" ∧ (parseMethodDescriptor y_M_addRow.desc).map (fun d => d.parameters.length) = some 1 := ⟨rfl, by decide +kernel, by decide +kernel, by decide +kernel⟩
abbrev c_M_width : ByteArray := prog_8_method_5_code
def y_M_width : MethodName := ⟨R_M, "width", "(II)I"⟩
theorem hd_M_width : y_M_width.cls = R_M ∧ y_M_width.cls ≠ "java/lang/invoke/MethodHandle" ∧ y_M_width.cls ≠ "java/lang/invoke/VarHandle" ∧ (parseMethodDescriptor y_M_width.desc).map (fun d => d.parameters.length) = some 2 := ⟨rfl, by decide +kernel, by decide +kernel, by decide +kernel⟩
abbrev c_M_freeOf : ByteArray := prog_8_method_10_code
def y_M_freeOf : MethodName := ⟨R_M, "freeOf", "(II)I"⟩
theorem hd_M_freeOf : y_M_freeOf.cls = R_M ∧ y_M_freeOf.cls ≠ "java/lang/invoke/MethodHandle" ∧ y_M_freeOf.cls ≠ "java/lang/invoke/VarHandle" ∧ (parseMethodDescriptor y_M_freeOf.desc).map (fun d => d.parameters.length) = some 2 := ⟨rfl, by decide +kernel, by decide +kernel, by decide +kernel⟩
abbrev c_M_used : ByteArray := prog_8_method_9_code
def y_M_used : MethodName := ⟨R_M, "used", "(II)Z"⟩
theorem hd_M_used : y_M_used.cls = R_M ∧ y_M_used.cls ≠ "java/lang/invoke/MethodHandle" ∧ y_M_used.cls ≠ "java/lang/invoke/VarHandle" ∧ (parseMethodDescriptor y_M_used.desc).map (fun d => d.parameters.length) = some 2 := ⟨rfl, by decide +kernel, by decide +kernel, by decide +kernel⟩
abbrev c_M_extentsOf : ByteArray := prog_8_method_8_code
def y_M_extentsOf : MethodName := ⟨R_M, "extentsOf", "(II)I"⟩
theorem hd_M_extentsOf : y_M_extentsOf.cls = R_M ∧ y_M_extentsOf.cls ≠ "java/lang/invoke/MethodHandle" ∧ y_M_extentsOf.cls ≠ "java/lang/invoke/VarHandle" ∧ (parseMethodDescriptor y_M_extentsOf.desc).map (fun d => d.parameters.length) = some 2 := ⟨rfl, by decide +kernel, by decide +kernel, by decide +kernel⟩
abbrev c_M_before : ByteArray := prog_8_method_12_code
def y_M_before : MethodName := ⟨R_M, "before", "(I)I"⟩
theorem hd_M_before : y_M_before.cls = R_M ∧ y_M_before.cls ≠ "java/lang/invoke/MethodHandle" ∧ y_M_before.cls ≠ "java/lang/invoke/VarHandle" ∧ (parseMethodDescriptor y_M_before.desc).map (fun d => d.parameters.length) = some 1 := ⟨rfl, by decide +kernel, by decide +kernel, by decide +kernel⟩
abbrev c_M_leastFree : ByteArray := prog_8_method_11_code
def y_M_leastFree : MethodName := ⟨R_M, "leastFree", "(II)I"⟩
theorem hd_M_leastFree : y_M_leastFree.cls = R_M ∧ y_M_leastFree.cls ≠ "java/lang/invoke/MethodHandle" ∧ y_M_leastFree.cls ≠ "java/lang/invoke/VarHandle" ∧ (parseMethodDescriptor y_M_leastFree.desc).map (fun d => d.parameters.length) = some 2 := ⟨rfl, by decide +kernel, by decide +kernel, by decide +kernel⟩
abbrev c_M_commit : ByteArray := prog_8_method_18_code
def y_M_commit : MethodName := ⟨R_M, "commit", "()Z"⟩
theorem hd_M_commit : y_M_commit.cls = R_M ∧ y_M_commit.cls ≠ "java/lang/invoke/MethodHandle" ∧ y_M_commit.cls ≠ "java/lang/invoke/VarHandle" ∧ (parseMethodDescriptor y_M_commit.desc).map (fun d => d.parameters.length) = some 0 := ⟨rfl, by decide +kernel, by decide +kernel, by decide +kernel⟩
abbrev c_M_slotBehind : ByteArray := prog_8_method_17_code
def y_M_slotBehind : MethodName := ⟨R_M, "slotBehind", "(I)I"⟩
theorem hd_M_slotBehind : y_M_slotBehind.cls = R_M ∧ y_M_slotBehind.cls ≠ "java/lang/invoke/MethodHandle" ∧ y_M_slotBehind.cls ≠ "java/lang/invoke/VarHandle" ∧ (parseMethodDescriptor y_M_slotBehind.desc).map (fun d => d.parameters.length) = some 1 := ⟨rfl, by decide +kernel, by decide +kernel, by decide +kernel⟩
abbrev c_M_nextSlot : ByteArray := prog_8_method_16_code
def y_M_nextSlot : MethodName := ⟨R_M, "nextSlot", "(I)I"⟩
theorem hd_M_nextSlot : y_M_nextSlot.cls = R_M ∧ y_M_nextSlot.cls ≠ "java/lang/invoke/MethodHandle" ∧ y_M_nextSlot.cls ≠ "java/lang/invoke/VarHandle" ∧ (parseMethodDescriptor y_M_nextSlot.desc).map (fun d => d.parameters.length) = some 1 := ⟨rfl, by decide +kernel, by decide +kernel, by decide +kernel⟩
abbrev c_M_writeCopy : ByteArray := prog_8_method_15_code
def y_M_writeCopy : MethodName := ⟨R_M, "writeCopy", "(IIII)Z"⟩
theorem hd_M_writeCopy : y_M_writeCopy.cls = R_M ∧ y_M_writeCopy.cls ≠ "java/lang/invoke/MethodHandle" ∧ y_M_writeCopy.cls ≠ "java/lang/invoke/VarHandle" ∧ (parseMethodDescriptor y_M_writeCopy.desc).map (fun d => d.parameters.length) = some 4 := ⟨rfl, by decide +kernel, by decide +kernel, by decide +kernel⟩
abbrev c_M_stops : ByteArray := prog_8_method_14_code
def y_M_stops : MethodName := ⟨R_M, "stops", "()Z"⟩
theorem hd_M_stops : y_M_stops.cls = R_M ∧ y_M_stops.cls ≠ "java/lang/invoke/MethodHandle" ∧ y_M_stops.cls ≠ "java/lang/invoke/VarHandle" ∧ (parseMethodDescriptor y_M_stops.desc).map (fun d => d.parameters.length) = some 0 := ⟨rfl, by decide +kernel, by decide +kernel, by decide +kernel⟩
abbrev c_M_extend : ByteArray := prog_8_method_23_code
def y_M_extend : MethodName := ⟨R_M, "extend", "(II)I"⟩
theorem hd_M_extend : y_M_extend.cls = R_M ∧ y_M_extend.cls ≠ "java/lang/invoke/MethodHandle" ∧ y_M_extend.cls ≠ "java/lang/invoke/VarHandle" ∧ (parseMethodDescriptor y_M_extend.desc).map (fun d => d.parameters.length) = some 2 := ⟨rfl, by decide +kernel, by decide +kernel, by decide +kernel⟩
abbrev c_M_isVolume : ByteArray := prog_8_method_7_code
def y_M_isVolume : MethodName := ⟨R_M, "isVolume", "(I)Z"⟩
theorem hd_M_isVolume : y_M_isVolume.cls = R_M ∧ y_M_isVolume.cls ≠ "java/lang/invoke/MethodHandle" ∧ y_M_isVolume.cls ≠ "java/lang/invoke/VarHandle" ∧ (parseMethodDescriptor y_M_isVolume.desc).map (fun d => d.parameters.length) = some 1 := ⟨rfl, by decide +kernel, by decide +kernel, by decide +kernel⟩
abbrev c_M_isMoved : ByteArray := prog_8_method_21_code
def y_M_isMoved : MethodName := ⟨R_M, "isMoved", "(I)Z"⟩
theorem hd_M_isMoved : y_M_isMoved.cls = R_M ∧ y_M_isMoved.cls ≠ "java/lang/invoke/MethodHandle" ∧ y_M_isMoved.cls ≠ "java/lang/invoke/VarHandle" ∧ (parseMethodDescriptor y_M_isMoved.desc).map (fun d => d.parameters.length) = some 1 := ⟨rfl, by decide +kernel, by decide +kernel, by decide +kernel⟩
abbrev c_M_reduce : ByteArray := prog_8_method_24_code
def y_M_reduce : MethodName := ⟨R_M, "reduce", "(II)I"⟩
theorem hd_M_reduce : y_M_reduce.cls = R_M ∧ y_M_reduce.cls ≠ "java/lang/invoke/MethodHandle" ∧ y_M_reduce.cls ≠ "java/lang/invoke/VarHandle" ∧ (parseMethodDescriptor y_M_reduce.desc).map (fun d => d.parameters.length) = some 2 := ⟨rfl, by decide +kernel, by decide +kernel, by decide +kernel⟩
abbrev c_M_move : ByteArray := prog_8_method_28_code
def y_M_move : MethodName := ⟨R_M, "move", "(III)I"⟩
theorem hd_M_move : y_M_move.cls = R_M ∧ y_M_move.cls ≠ "java/lang/invoke/MethodHandle" ∧ y_M_move.cls ≠ "java/lang/invoke/VarHandle" ∧ (parseMethodDescriptor y_M_move.desc).map (fun d => d.parameters.length) = some 3 := ⟨rfl, by decide +kernel, by decide +kernel, by decide +kernel⟩
abbrev c_M_isExtent : ByteArray := prog_8_method_27_code
def y_M_isExtent : MethodName := ⟨R_M, "isExtent", "(II)Z"⟩
theorem hd_M_isExtent : y_M_isExtent.cls = R_M ∧ y_M_isExtent.cls ≠ "java/lang/invoke/MethodHandle" ∧ y_M_isExtent.cls ≠ "java/lang/invoke/VarHandle" ∧ (parseMethodDescriptor y_M_isExtent.desc).map (fun d => d.parameters.length) = some 2 := ⟨rfl, by decide +kernel, by decide +kernel, by decide +kernel⟩
abbrev c_M_step : ByteArray := prog_8_method_30_code
def y_M_step : MethodName := ⟨R_M, "step", "()I"⟩
theorem hd_M_step : y_M_step.cls = R_M ∧ y_M_step.cls ≠ "java/lang/invoke/MethodHandle" ∧ y_M_step.cls ≠ "java/lang/invoke/VarHandle" ∧ (parseMethodDescriptor y_M_step.desc).map (fun d => d.parameters.length) = some 0 := ⟨rfl, by decide +kernel, by decide +kernel, by decide +kernel⟩
abbrev c_M_source : ByteArray := prog_8_method_25_code
def y_M_source : MethodName := ⟨R_M, "source", "()I"⟩
theorem hd_M_source : y_M_source.cls = R_M ∧ y_M_source.cls ≠ "java/lang/invoke/MethodHandle" ∧ y_M_source.cls ≠ "java/lang/invoke/VarHandle" ∧ (parseMethodDescriptor y_M_source.desc).map (fun d => d.parameters.length) = some 0 := ⟨rfl, by decide +kernel, by decide +kernel, by decide +kernel⟩
abbrev c_M_target : ByteArray := prog_8_method_26_code
def y_M_target : MethodName := ⟨R_M, "target", "()I"⟩
theorem hd_M_target : y_M_target.cls = R_M ∧ y_M_target.cls ≠ "java/lang/invoke/MethodHandle" ∧ y_M_target.cls ≠ "java/lang/invoke/VarHandle" ∧ (parseMethodDescriptor y_M_target.desc).map (fun d => d.parameters.length) = some 0 := ⟨rfl, by decide +kernel, by decide +kernel, by decide +kernel⟩
abbrev c_M_cellAt : ByteArray := prog_8_method_29_code
def y_M_cellAt : MethodName := ⟨R_M, "cellAt", "(II)I"⟩
theorem hd_M_cellAt : y_M_cellAt.cls = R_M ∧ y_M_cellAt.cls ≠ "java/lang/invoke/MethodHandle" ∧ y_M_cellAt.cls ≠ "java/lang/invoke/VarHandle" ∧ (parseMethodDescriptor y_M_cellAt.desc).map (fun d => d.parameters.length) = some 2 := ⟨rfl, by decide +kernel, by decide +kernel, by decide +kernel⟩
abbrev c_M_cancel : ByteArray := prog_8_method_31_code
def y_M_cancel : MethodName := ⟨R_M, "cancel", "()I"⟩
theorem hd_M_cancel : y_M_cancel.cls = R_M ∧ y_M_cancel.cls ≠ "java/lang/invoke/MethodHandle" ∧ y_M_cancel.cls ≠ "java/lang/invoke/VarHandle" ∧ (parseMethodDescriptor y_M_cancel.desc).map (fun d => d.parameters.length) = some 0 := ⟨rfl, by decide +kernel, by decide +kernel, by decide +kernel⟩
abbrev c_M_read : ByteArray := prog_8_method_35_code
def y_M_read : MethodName := ⟨R_M, "read", "(II)I"⟩
theorem hd_M_read : y_M_read.cls = R_M ∧ y_M_read.cls ≠ "java/lang/invoke/MethodHandle" ∧ y_M_read.cls ≠ "java/lang/invoke/VarHandle" ∧ (parseMethodDescriptor y_M_read.desc).map (fun d => d.parameters.length) = some 2 := ⟨rfl, by decide +kernel, by decide +kernel, by decide +kernel⟩
abbrev c_M_isBlock : ByteArray := prog_8_method_34_code
def y_M_isBlock : MethodName := ⟨R_M, "isBlock", "(II)Z"⟩
theorem hd_M_isBlock : y_M_isBlock.cls = R_M ∧ y_M_isBlock.cls ≠ "java/lang/invoke/MethodHandle" ∧ y_M_isBlock.cls ≠ "java/lang/invoke/VarHandle" ∧ (parseMethodDescriptor y_M_isBlock.desc).map (fun d => d.parameters.length) = some 2 := ⟨rfl, by decide +kernel, by decide +kernel, by decide +kernel⟩
abbrev c_M_extentOf : ByteArray := prog_8_method_32_code
def y_M_extentOf : MethodName := ⟨R_M, "extentOf", "(II)I"⟩
theorem hd_M_extentOf : y_M_extentOf.cls = R_M ∧ y_M_extentOf.cls ≠ "java/lang/invoke/MethodHandle" ∧ y_M_extentOf.cls ≠ "java/lang/invoke/VarHandle" ∧ (parseMethodDescriptor y_M_extentOf.desc).map (fun d => d.parameters.length) = some 2 := ⟨rfl, by decide +kernel, by decide +kernel, by decide +kernel⟩
abbrev c_M_cellOf : ByteArray := prog_8_method_33_code
def y_M_cellOf : MethodName := ⟨R_M, "cellOf", "(II)I"⟩
theorem hd_M_cellOf : y_M_cellOf.cls = R_M ∧ y_M_cellOf.cls ≠ "java/lang/invoke/MethodHandle" ∧ y_M_cellOf.cls ≠ "java/lang/invoke/VarHandle" ∧ (parseMethodDescriptor y_M_cellOf.desc).map (fun d => d.parameters.length) = some 2 := ⟨rfl, by decide +kernel, by decide +kernel, by decide +kernel⟩
abbrev c_M_write : ByteArray := prog_8_method_36_code
def y_M_write : MethodName := ⟨R_M, "write", "(III)I"⟩
theorem hd_M_write : y_M_write.cls = R_M ∧ y_M_write.cls ≠ "java/lang/invoke/MethodHandle" ∧ y_M_write.cls ≠ "java/lang/invoke/VarHandle" ∧ (parseMethodDescriptor y_M_write.desc).map (fun d => d.parameters.length) = some 3 := ⟨rfl, by decide +kernel, by decide +kernel, by decide +kernel⟩
abbrev c_M_pull : ByteArray := prog_8_method_38_code
def y_M_pull : MethodName := ⟨R_M, "pull", "(I)Z"⟩
theorem hd_M_pull : y_M_pull.cls = R_M ∧ y_M_pull.cls ≠ "java/lang/invoke/MethodHandle" ∧ y_M_pull.cls ≠ "java/lang/invoke/VarHandle" ∧ (parseMethodDescriptor y_M_pull.desc).map (fun d => d.parameters.length) = some 1 := ⟨rfl, by decide +kernel, by decide +kernel, by decide +kernel⟩
abbrev c_M_isDisk : ByteArray := prog_8_method_37_code
def y_M_isDisk : MethodName := ⟨R_M, "isDisk", "(I)Z"⟩
theorem hd_M_isDisk : y_M_isDisk.cls = R_M ∧ y_M_isDisk.cls ≠ "java/lang/invoke/MethodHandle" ∧ y_M_isDisk.cls ≠ "java/lang/invoke/VarHandle" ∧ (parseMethodDescriptor y_M_isDisk.desc).map (fun d => d.parameters.length) = some 1 := ⟨rfl, by decide +kernel, by decide +kernel, by decide +kernel⟩
abbrev c_M_plug : ByteArray := prog_8_method_39_code
def y_M_plug : MethodName := ⟨R_M, "plug", "(I)Z"⟩
theorem hd_M_plug : y_M_plug.cls = R_M ∧ y_M_plug.cls ≠ "java/lang/invoke/MethodHandle" ∧ y_M_plug.cls ≠ "java/lang/invoke/VarHandle" ∧ (parseMethodDescriptor y_M_plug.desc).map (fun d => d.parameters.length) = some 1 := ⟨rfl, by decide +kernel, by decide +kernel, by decide +kernel⟩
abbrev c_M_arm : ByteArray := prog_8_method_40_code
def y_M_arm : MethodName := ⟨R_M, "arm", "(I)Z"⟩
theorem hd_M_arm : y_M_arm.cls = R_M ∧ y_M_arm.cls ≠ "java/lang/invoke/MethodHandle" ∧ y_M_arm.cls ≠ "java/lang/invoke/VarHandle" ∧ (parseMethodDescriptor y_M_arm.desc).map (fun d => d.parameters.length) = some 1 := ⟨rfl, by decide +kernel, by decide +kernel, by decide +kernel⟩
abbrev c_M_crash : ByteArray := prog_8_method_41_code
def y_M_crash : MethodName := ⟨R_M, "crash", "()Z"⟩
theorem hd_M_crash : y_M_crash.cls = R_M ∧ y_M_crash.cls ≠ "java/lang/invoke/MethodHandle" ∧ y_M_crash.cls ≠ "java/lang/invoke/VarHandle" ∧ (parseMethodDescriptor y_M_crash.desc).map (fun d => d.parameters.length) = some 0 := ⟨rfl, by decide +kernel, by decide +kernel, by decide +kernel⟩
abbrev c_M_activate : ByteArray := prog_8_method_45_code
def y_M_activate : MethodName := ⟨R_M, "activate", "()I"⟩
theorem hd_M_activate : y_M_activate.cls = R_M ∧ y_M_activate.cls ≠ "java/lang/invoke/MethodHandle" ∧ y_M_activate.cls ≠ "java/lang/invoke/VarHandle" ∧ (parseMethodDescriptor y_M_activate.desc).map (fun d => d.parameters.length) = some 0 := ⟨rfl, by decide +kernel, by decide +kernel, by decide +kernel⟩
abbrev c_M_choose : ByteArray := prog_8_method_43_code
def y_M_choose : MethodName := ⟨R_M, "choose", "()I"⟩
theorem hd_M_choose : y_M_choose.cls = R_M ∧ y_M_choose.cls ≠ "java/lang/invoke/MethodHandle" ∧ y_M_choose.cls ≠ "java/lang/invoke/VarHandle" ∧ (parseMethodDescriptor y_M_choose.desc).map (fun d => d.parameters.length) = some 0 := ⟨rfl, by decide +kernel, by decide +kernel, by decide +kernel⟩
abbrev c_M_holds : ByteArray := prog_8_method_42_code
def y_M_holds : MethodName := ⟨R_M, "holds", "(III)Z"⟩
theorem hd_M_holds : y_M_holds.cls = R_M ∧ y_M_holds.cls ≠ "java/lang/invoke/MethodHandle" ∧ y_M_holds.cls ≠ "java/lang/invoke/VarHandle" ∧ (parseMethodDescriptor y_M_holds.desc).map (fun d => d.parameters.length) = some 3 := ⟨rfl, by decide +kernel, by decide +kernel, by decide +kernel⟩
abbrev c_M_settle : ByteArray := prog_8_method_44_code
def y_M_settle : MethodName := ⟨R_M, "settle", "(III)Z"⟩
theorem hd_M_settle : y_M_settle.cls = R_M ∧ y_M_settle.cls ≠ "java/lang/invoke/MethodHandle" ∧ y_M_settle.cls ≠ "java/lang/invoke/VarHandle" ∧ (parseMethodDescriptor y_M_settle.desc).map (fun d => d.parameters.length) = some 3 := ⟨rfl, by decide +kernel, by decide +kernel, by decide +kernel⟩
abbrev c_M_where : ByteArray := prog_8_method_46_code
def y_M_where : MethodName := ⟨R_M, "where", "(II)I"⟩
theorem hd_M_where : y_M_where.cls = R_M ∧ y_M_where.cls ≠ "java/lang/invoke/MethodHandle" ∧ y_M_where.cls ≠ "java/lang/invoke/VarHandle" ∧ (parseMethodDescriptor y_M_where.desc).map (fun d => d.parameters.length) = some 2 := ⟨rfl, by decide +kernel, by decide +kernel, by decide +kernel⟩
abbrev c_M_rows : ByteArray := prog_8_method_47_code
def y_M_rows : MethodName := ⟨R_M, "rows", "(I)I"⟩
theorem hd_M_rows : y_M_rows.cls = R_M ∧ y_M_rows.cls ≠ "java/lang/invoke/MethodHandle" ∧ y_M_rows.cls ≠ "java/lang/invoke/VarHandle" ∧ (parseMethodDescriptor y_M_rows.desc).map (fun d => d.parameters.length) = some 1 := ⟨rfl, by decide +kernel, by decide +kernel, by decide +kernel⟩
abbrev c_M_free : ByteArray := prog_8_method_48_code
def y_M_free : MethodName := ⟨R_M, "free", "(I)I"⟩
theorem hd_M_free : y_M_free.cls = R_M ∧ y_M_free.cls ≠ "java/lang/invoke/MethodHandle" ∧ y_M_free.cls ≠ "java/lang/invoke/VarHandle" ∧ (parseMethodDescriptor y_M_free.desc).map (fun d => d.parameters.length) = some 1 := ⟨rfl, by decide +kernel, by decide +kernel, by decide +kernel⟩
abbrev c_M_moving : ByteArray := prog_8_method_49_code
def y_M_moving : MethodName := ⟨R_M, "moving", "()I"⟩
theorem hd_M_moving : y_M_moving.cls = R_M ∧ y_M_moving.cls ≠ "java/lang/invoke/MethodHandle" ∧ y_M_moving.cls ≠ "java/lang/invoke/VarHandle" ∧ (parseMethodDescriptor y_M_moving.desc).map (fun d => d.parameters.length) = some 0 := ⟨rfl, by decide +kernel, by decide +kernel, by decide +kernel⟩
abbrev c_M_sequence : ByteArray := prog_8_method_50_code
def y_M_sequence : MethodName := ⟨R_M, "sequence", "()I"⟩
theorem hd_M_sequence : y_M_sequence.cls = R_M ∧ y_M_sequence.cls ≠ "java/lang/invoke/MethodHandle" ∧ y_M_sequence.cls ≠ "java/lang/invoke/VarHandle" ∧ (parseMethodDescriptor y_M_sequence.desc).map (fun d => d.parameters.length) = some 0 := ⟨rfl, by decide +kernel, by decide +kernel, by decide +kernel⟩
abbrev c_M_slot : ByteArray := prog_8_method_51_code
def y_M_slot : MethodName := ⟨R_M, "slot", "(II)I"⟩
theorem hd_M_slot : y_M_slot.cls = R_M ∧ y_M_slot.cls ≠ "java/lang/invoke/MethodHandle" ∧ y_M_slot.cls ≠ "java/lang/invoke/VarHandle" ∧ (parseMethodDescriptor y_M_slot.desc).map (fun d => d.parameters.length) = some 2 := ⟨rfl, by decide +kernel, by decide +kernel, by decide +kernel⟩
set_option maxRecDepth 100000 in
theorem cl_W_7 : Cond.classLink R_W 7 "ExtentGroup" ∈ WS := ws_at 67 rfl rfl
set_option maxRecDepth 100000 in
theorem ml_W_15 : (Cond.methodLink R_W 15 y_E_init ∈ WS ∧ Cond.code y_E_init c_E_init 6 none ∈ WS ∧ Cond.initialized R_E ∈ WS) ∧ Cond.instanceMethod y_E_init ∈ WS := ⟨⟨ws_at 69 rfl rfl, ws_at 71 rfl rfl, ws_at 56 rfl rfl⟩, ws_at 70 rfl rfl⟩
set_option maxRecDepth 100000 in
theorem ml_E_7 : (Cond.methodLink R_E 7 y_JM_max ∈ WS ∧ Cond.code y_JM_max c_JM_max 2 (some .int) ∈ WS ∧ Cond.initialized R_JM ∈ WS) ∧ Cond.static y_JM_max ∈ WS := ⟨⟨ws_at 75 rfl rfl, ws_at 77 rfl rfl, ws_at 57 rfl rfl⟩, ws_at 76 rfl rfl⟩
set_option maxRecDepth 100000 in
theorem ml_E_13 : (Cond.methodLink R_E 13 y_JM_min ∈ WS ∧ Cond.code y_JM_min c_JM_min 2 (some .int) ∈ WS ∧ Cond.initialized R_JM ∈ WS) ∧ Cond.static y_JM_min ∈ WS := ⟨⟨ws_at 78 rfl rfl, ws_at 80 rfl rfl, ws_at 57 rfl rfl⟩, ws_at 79 rfl rfl⟩
set_option maxRecDepth 100000 in
theorem cl_E_22 : Cond.classLink R_E 22 "ExtentGroup$Copy" ∈ WS := ws_at 81 rfl rfl
set_option maxRecDepth 100000 in
theorem cl_E_24 : Cond.classLink R_E 24 "ExtentGroup$Layout" ∈ WS := ws_at 83 rfl rfl
set_option maxRecDepth 100000 in
theorem cl_E_26 : Cond.classLink R_E 26 "ExtentGroup$Volume" ∈ WS := ws_at 85 rfl rfl
set_option maxRecDepth 100000 in
theorem ml_E_28 : (Cond.methodLink R_E 28 y_L_init ∈ WS ∧ Cond.code y_L_init c_L_init 3 none ∈ WS ∧ Cond.initialized R_L ∈ WS) ∧ Cond.instanceMethod y_L_init ∈ WS := ⟨⟨ws_at 87 rfl rfl, ws_at 89 rfl rfl, ws_at 59 rfl rfl⟩, ws_at 88 rfl rfl⟩
set_option maxRecDepth 100000 in
theorem fl_L_9 : Cond.fieldLink R_L 9 "ExtentGroup$Layout" "volumes" "[LExtentGroup$Volume;" ∈ WS := ws_at 91 rfl rfl
set_option maxRecDepth 100000 in
theorem fl_L_15 : Cond.fieldLink R_L 15 "ExtentGroup$Layout" "move" "LExtentGroup$Move;" ∈ WS := ws_at 92 rfl rfl
set_option maxRecDepth 100000 in
theorem fl_E_121 : Cond.fieldLink R_E 121 "ExtentGroup$Layout" "move" "LExtentGroup$Move;" ∈ WS := ws_at 93 rfl rfl
set_option maxRecDepth 100000 in
theorem ml_E_31 : (Cond.methodLink R_E 31 y_C_init ∈ WS ∧ Cond.code y_C_init c_C_init 4 none ∈ WS ∧ Cond.initialized R_C ∈ WS) ∧ Cond.instanceMethod y_C_init ∈ WS := ⟨⟨ws_at 99 rfl rfl, ws_at 101 rfl rfl, ws_at 58 rfl rfl⟩, ws_at 100 rfl rfl⟩
set_option maxRecDepth 100000 in
theorem fl_C_7 : Cond.fieldLink R_C 7 "ExtentGroup$Copy" "number" "I" ∈ WS := ws_at 103 rfl rfl
set_option maxRecDepth 100000 in
theorem fl_E_192 : Cond.fieldLink R_E 192 "ExtentGroup$Copy" "number" "I" ∈ WS := ws_at 104 rfl rfl
set_option maxRecDepth 100000 in
theorem fl_C_13 : Cond.fieldLink R_C 13 "ExtentGroup$Copy" "stamp" "I" ∈ WS := ws_at 105 rfl rfl
set_option maxRecDepth 100000 in
theorem fl_E_54 : Cond.fieldLink R_E 54 "ExtentGroup$Copy" "stamp" "I" ∈ WS := ws_at 106 rfl rfl
set_option maxRecDepth 100000 in
theorem fl_C_16 : Cond.fieldLink R_C 16 "ExtentGroup$Copy" "layout" "LExtentGroup$Layout;" ∈ WS := ws_at 107 rfl rfl
set_option maxRecDepth 100000 in
theorem fl_E_75 : Cond.fieldLink R_E 75 "ExtentGroup$Copy" "layout" "LExtentGroup$Layout;" ∈ WS := ws_at 108 rfl rfl
set_option maxRecDepth 100000 in
theorem cl_E_34 : Cond.classLink R_E 34 "ExtentGroup$Disk" ∈ WS := ws_at 116 rfl rfl
set_option maxRecDepth 100000 in
theorem ml_E_40 : (Cond.methodLink R_E 40 y_D_init ∈ WS ∧ Cond.code y_D_init c_D_init 3 none ∈ WS ∧ Cond.initialized R_D ∈ WS) ∧ Cond.instanceMethod y_D_init ∈ WS := ⟨⟨ws_at 119 rfl rfl, ws_at 121 rfl rfl, ws_at 60 rfl rfl⟩, ws_at 120 rfl rfl⟩
set_option maxRecDepth 100000 in
theorem cl_D_15 : Cond.classLink R_D 15 "ExtentGroup$Copy" ∈ WS := ws_at 123 rfl rfl
set_option maxRecDepth 100000 in
theorem fl_D_9 : Cond.fieldLink R_D 9 "ExtentGroup$Disk" "cells" "[I" ∈ WS := ws_at 125 rfl rfl
set_option maxRecDepth 100000 in
theorem fl_E_215 : Cond.fieldLink R_E 215 "ExtentGroup$Disk" "cells" "[I" ∈ WS := ws_at 126 rfl rfl
set_option maxRecDepth 100000 in
theorem fl_D_17 : Cond.fieldLink R_D 17 "ExtentGroup$Disk" "copies" "[LExtentGroup$Copy;" ∈ WS := ws_at 127 rfl rfl
set_option maxRecDepth 100000 in
theorem fl_E_208 : Cond.fieldLink R_E 208 "ExtentGroup$Disk" "copies" "[LExtentGroup$Copy;" ∈ WS := ws_at 128 rfl rfl
set_option maxRecDepth 100000 in
theorem fl_D_21 : Cond.fieldLink R_D 21 "ExtentGroup$Disk" "isTorn" "[Z" ∈ WS := ws_at 129 rfl rfl
set_option maxRecDepth 100000 in
theorem fl_E_204 : Cond.fieldLink R_E 204 "ExtentGroup$Disk" "isTorn" "[Z" ∈ WS := ws_at 130 rfl rfl
set_option maxRecDepth 100000 in
theorem fl_D_25 : Cond.fieldLink R_D 25 "ExtentGroup$Disk" "nextSlot" "I" ∈ WS := ws_at 131 rfl rfl
set_option maxRecDepth 100000 in
theorem fl_E_221 : Cond.fieldLink R_E 221 "ExtentGroup$Disk" "nextSlot" "I" ∈ WS := ws_at 132 rfl rfl
set_option maxRecDepth 100000 in
theorem fl_D_29 : Cond.fieldLink R_D 29 "ExtentGroup$Disk" "isPresent" "Z" ∈ WS := ws_at 133 rfl rfl
set_option maxRecDepth 100000 in
theorem fl_E_132 : Cond.fieldLink R_E 132 "ExtentGroup$Disk" "isPresent" "Z" ∈ WS := ws_at 134 rfl rfl
set_option maxRecDepth 100000 in
theorem fl_E_16 : Cond.fieldLink R_E 16 "ExtentGroup" "extentCount" "I" ∈ WS := ws_at 148 rfl rfl
set_option maxRecDepth 100000 in
theorem fl_E_36 : Cond.fieldLink R_E 36 "ExtentGroup" "disks" "[LExtentGroup$Disk;" ∈ WS := ws_at 149 rfl rfl
set_option maxRecDepth 100000 in
theorem fl_E_43 : Cond.fieldLink R_E 43 "ExtentGroup" "taken" "[I" ∈ WS := ws_at 150 rfl rfl
set_option maxRecDepth 100000 in
theorem fl_E_47 : Cond.fieldLink R_E 47 "ExtentGroup" "present" "LExtentGroup$Copy;" ∈ WS := ws_at 151 rfl rfl
set_option maxRecDepth 100000 in
theorem fl_E_51 : Cond.fieldLink R_E 51 "ExtentGroup" "copied" "I" ∈ WS := ws_at 152 rfl rfl
set_option maxRecDepth 100000 in
theorem fl_E_57 : Cond.fieldLink R_E 57 "ExtentGroup" "lastStamp" "I" ∈ WS := ws_at 153 rfl rfl
set_option maxRecDepth 100000 in
theorem fl_E_60 : Cond.fieldLink R_E 60 "ExtentGroup" "up" "Z" ∈ WS := ws_at 154 rfl rfl
set_option maxRecDepth 100000 in
theorem fl_E_64 : Cond.fieldLink R_E 64 "ExtentGroup" "actsBeforeStop" "I" ∈ WS := ws_at 155 rfl rfl
set_option maxRecDepth 100000 in
theorem ml_W_21 : (Cond.methodLink R_W 21 y_E_create ∈ WS ∧ Cond.code y_E_create c_E_create 6 (some .int) ∈ WS ∧ Cond.initialized R_E ∈ WS) ∧ Cond.instanceMethod y_E_create ∈ WS ∧ Cond.selects R_E y_E_create y_E_create ∈ WS := ⟨⟨ws_at 173 rfl rfl, ws_at 176 rfl rfl, ws_at 56 rfl rfl⟩, ws_at 174 rfl rfl, ws_at 175 rfl rfl⟩
set_option maxRecDepth 100000 in
theorem ml_E_67 : (Cond.methodLink R_E 67 y_E_isShape ∈ WS ∧ Cond.code y_E_isShape c_E_isShape 2 (some .boolean) ∈ WS ∧ Cond.initialized R_E ∈ WS) ∧ Cond.static y_E_isShape ∈ WS := ⟨⟨ws_at 177 rfl rfl, ws_at 179 rfl rfl, ws_at 56 rfl rfl⟩, ws_at 178 rfl rfl⟩
set_option maxRecDepth 100000 in
theorem ml_E_71 : (Cond.methodLink R_E 71 y_E_isFew ∈ WS ∧ Cond.code y_E_isFew c_E_isFew 3 (some .boolean) ∈ WS ∧ Cond.initialized R_E ∈ WS) ∧ Cond.instanceMethod y_E_isFew ∈ WS ∧ Cond.selects R_E y_E_isFew y_E_isFew ∈ WS := ⟨⟨ws_at 180 rfl rfl, ws_at 183 rfl rfl, ws_at 56 rfl rfl⟩, ws_at 182 rfl rfl, ws_at 0 rfl rfl⟩
set_option maxRecDepth 100000 in
theorem ml_E_212 : (Cond.methodLink R_E 212 y_E_isQuorum ∈ WS ∧ Cond.code y_E_isQuorum c_E_isQuorum 2 (some .boolean) ∈ WS ∧ Cond.initialized R_E ∈ WS) ∧ Cond.instanceMethod y_E_isQuorum ∈ WS ∧ Cond.selects R_E y_E_isQuorum y_E_isQuorum ∈ WS := ⟨⟨ws_at 184 rfl rfl, ws_at 187 rfl rfl, ws_at 56 rfl rfl⟩, ws_at 186 rfl rfl, ws_at 1 rfl rfl⟩
set_option maxRecDepth 100000 in
theorem ml_E_79 : (Cond.methodLink R_E 79 y_L_leastAbsent ∈ WS ∧ Cond.code y_L_leastAbsent c_L_leastAbsent 2 (some .int) ∈ WS ∧ Cond.initialized R_L ∈ WS) ∧ Cond.instanceMethod y_L_leastAbsent ∈ WS ∧ Cond.selects R_L y_L_leastAbsent y_L_leastAbsent ∈ WS := ⟨⟨ws_at 188 rfl rfl, ws_at 191 rfl rfl, ws_at 59 rfl rfl⟩, ws_at 189 rfl rfl, ws_at 190 rfl rfl⟩
set_option maxRecDepth 100000 in
theorem ml_E_83 : (Cond.methodLink R_E 83 y_U_init ∈ WS ∧ Cond.code y_U_init c_U_init 5 none ∈ WS ∧ Cond.initialized R_U ∈ WS) ∧ Cond.instanceMethod y_U_init ∈ WS := ⟨⟨ws_at 193 rfl rfl, ws_at 195 rfl rfl, ws_at 62 rfl rfl⟩, ws_at 194 rfl rfl⟩
set_option maxRecDepth 100000 in
theorem fl_U_9 : Cond.fieldLink R_U 9 "ExtentGroup$Volume" "width" "I" ∈ WS := ws_at 197 rfl rfl
set_option maxRecDepth 100000 in
theorem fl_E_102 : Cond.fieldLink R_E 102 "ExtentGroup$Volume" "width" "I" ∈ WS := ws_at 198 rfl rfl
set_option maxRecDepth 100000 in
theorem fl_U_15 : Cond.fieldLink R_U 15 "ExtentGroup$Volume" "chunk" "I" ∈ WS := ws_at 199 rfl rfl
set_option maxRecDepth 100000 in
theorem fl_U_18 : Cond.fieldLink R_U 18 "ExtentGroup$Volume" "rowCount" "I" ∈ WS := ws_at 200 rfl rfl
set_option maxRecDepth 100000 in
theorem fl_E_105 : Cond.fieldLink R_E 105 "ExtentGroup$Volume" "rowCount" "I" ∈ WS := ws_at 201 rfl rfl
set_option maxRecDepth 100000 in
theorem fl_U_21 : Cond.fieldLink R_U 21 "ExtentGroup$Volume" "places" "[I" ∈ WS := ws_at 202 rfl rfl
set_option maxRecDepth 100000 in
theorem fl_E_125 : Cond.fieldLink R_E 125 "ExtentGroup$Volume" "places" "[I" ∈ WS := ws_at 203 rfl rfl
set_option maxRecDepth 100000 in
theorem ml_E_86 : (Cond.methodLink R_E 86 y_E_takeRows ∈ WS ∧ Cond.code y_E_takeRows c_E_takeRows 5 (some .boolean) ∈ WS ∧ Cond.initialized R_E ∈ WS) ∧ Cond.instanceMethod y_E_takeRows ∈ WS ∧ Cond.selects R_E y_E_takeRows y_E_takeRows ∈ WS := ⟨⟨ws_at 213 rfl rfl, ws_at 216 rfl rfl, ws_at 56 rfl rfl⟩, ws_at 215 rfl rfl, ws_at 2 rfl rfl⟩
set_option maxRecDepth 100000 in
theorem ml_E_135 : (Cond.methodLink R_E 135 y_E_markTaken ∈ WS ∧ Cond.code y_E_markTaken c_E_markTaken 4 none ∈ WS ∧ Cond.initialized R_E ∈ WS) ∧ Cond.instanceMethod y_E_markTaken ∈ WS ∧ Cond.selects R_E y_E_markTaken y_E_markTaken ∈ WS := ⟨⟨ws_at 217 rfl rfl, ws_at 220 rfl rfl, ws_at 56 rfl rfl⟩, ws_at 219 rfl rfl, ws_at 3 rfl rfl⟩
set_option maxRecDepth 100000 in
theorem ml_E_238 : (Cond.methodLink R_E 238 y_JA_fill ∈ WS ∧ Cond.code y_JA_fill c_JA_fill 4 none ∈ WS ∧ Cond.initialized R_JA ∈ WS) ∧ Cond.static y_JA_fill ∈ WS := ⟨⟨ws_at 221 rfl rfl, ws_at 223 rfl rfl, ws_at 63 rfl rfl⟩, ws_at 222 rfl rfl⟩
set_option maxRecDepth 100000 in
theorem ml_E_98 : (Cond.methodLink R_E 98 y_L_volumeAt ∈ WS ∧ Cond.code y_L_volumeAt c_L_volumeAt 2 (some (.object "ExtentGroup$Volume")) ∈ WS ∧ Cond.initialized R_L ∈ WS) ∧ Cond.instanceMethod y_L_volumeAt ∈ WS ∧ Cond.selects R_L y_L_volumeAt y_L_volumeAt ∈ WS := ⟨⟨ws_at 224 rfl rfl, ws_at 227 rfl rfl, ws_at 59 rfl rfl⟩, ws_at 225 rfl rfl, ws_at 226 rfl rfl⟩
set_option maxRecDepth 100000 in
theorem ml_E_244 : (Cond.methodLink R_E 244 y_E_take ∈ WS ∧ Cond.code y_E_take c_E_take 2 none ∈ WS ∧ Cond.initialized R_E ∈ WS) ∧ Cond.instanceMethod y_E_take ∈ WS ∧ Cond.selects R_E y_E_take y_E_take ∈ WS := ⟨⟨ws_at 228 rfl rfl, ws_at 231 rfl rfl, ws_at 56 rfl rfl⟩, ws_at 230 rfl rfl, ws_at 4 rfl rfl⟩
set_option maxRecDepth 100000 in
theorem ml_E_253 : (Cond.methodLink R_E 253 y_E_pickDisks ∈ WS ∧ Cond.code y_E_pickDisks c_E_pickDisks 5 (some .int) ∈ WS ∧ Cond.initialized R_E ∈ WS) ∧ Cond.instanceMethod y_E_pickDisks ∈ WS ∧ Cond.selects R_E y_E_pickDisks y_E_pickDisks ∈ WS := ⟨⟨ws_at 232 rfl rfl, ws_at 235 rfl rfl, ws_at 56 rfl rfl⟩, ws_at 234 rfl rfl, ws_at 5 rfl rfl⟩
set_option maxRecDepth 100000 in
theorem ml_E_260 : (Cond.methodLink R_E 260 y_E_roomiest ∈ WS ∧ Cond.code y_E_roomiest c_E_roomiest 6 (some .int) ∈ WS ∧ Cond.initialized R_E ∈ WS) ∧ Cond.instanceMethod y_E_roomiest ∈ WS ∧ Cond.selects R_E y_E_roomiest y_E_roomiest ∈ WS := ⟨⟨ws_at 236 rfl rfl, ws_at 239 rfl rfl, ws_at 56 rfl rfl⟩, ws_at 238 rfl rfl, ws_at 6 rfl rfl⟩
set_option maxRecDepth 100000 in
theorem ml_E_195 : (Cond.methodLink R_E 195 y_E_freeCount ∈ WS ∧ Cond.code y_E_freeCount c_E_freeCount 2 (some .int) ∈ WS ∧ Cond.initialized R_E ∈ WS) ∧ Cond.instanceMethod y_E_freeCount ∈ WS ∧ Cond.selects R_E y_E_freeCount y_E_freeCount ∈ WS := ⟨⟨ws_at 240 rfl rfl, ws_at 243 rfl rfl, ws_at 56 rfl rfl⟩, ws_at 242 rfl rfl, ws_at 7 rfl rfl⟩
set_option maxRecDepth 100000 in
theorem ml_E_248 : (Cond.methodLink R_E 248 y_JI_bitCount ∈ WS ∧ Cond.code y_JI_bitCount c_JI_bitCount 1 (some .int) ∈ WS ∧ Cond.initialized R_JI ∈ WS) ∧ Cond.static y_JI_bitCount ∈ WS := ⟨⟨ws_at 244 rfl rfl, ws_at 246 rfl rfl, ws_at 64 rfl rfl⟩, ws_at 245 rfl rfl⟩
set_option maxRecDepth 100000 in
theorem ml_E_256 : (Cond.methodLink R_E 256 y_E_takeRow ∈ WS ∧ Cond.code y_E_takeRow c_E_takeRow 6 none ∈ WS ∧ Cond.initialized R_E ∈ WS) ∧ Cond.instanceMethod y_E_takeRow ∈ WS ∧ Cond.selects R_E y_E_takeRow y_E_takeRow ∈ WS := ⟨⟨ws_at 250 rfl rfl, ws_at 253 rfl rfl, ws_at 56 rfl rfl⟩, ws_at 252 rfl rfl, ws_at 8 rfl rfl⟩
set_option maxRecDepth 100000 in
theorem ml_E_138 : (Cond.methodLink R_E 138 y_E_leastFree ∈ WS ∧ Cond.code y_E_leastFree c_E_leastFree 3 (some .int) ∈ WS ∧ Cond.initialized R_E ∈ WS) ∧ Cond.instanceMethod y_E_leastFree ∈ WS ∧ Cond.selects R_E y_E_leastFree y_E_leastFree ∈ WS := ⟨⟨ws_at 254 rfl rfl, ws_at 257 rfl rfl, ws_at 56 rfl rfl⟩, ws_at 256 rfl rfl, ws_at 9 rfl rfl⟩
set_option maxRecDepth 100000 in
theorem ml_E_90 : (Cond.methodLink R_E 90 y_L_withVolume ∈ WS ∧ Cond.code y_L_withVolume c_L_withVolume 3 (some (.object "ExtentGroup$Layout")) ∈ WS ∧ Cond.initialized R_L ∈ WS) ∧ Cond.instanceMethod y_L_withVolume ∈ WS ∧ Cond.selects R_L y_L_withVolume y_L_withVolume ∈ WS := ⟨⟨ws_at 258 rfl rfl, ws_at 261 rfl rfl, ws_at 59 rfl rfl⟩, ws_at 259 rfl rfl, ws_at 260 rfl rfl⟩
set_option maxRecDepth 100000 in
theorem cl_L_10 : Cond.classLink R_L 10 "ExtentGroup$Layout" ∈ WS := ws_at 262 rfl rfl
set_option maxRecDepth 100000 in
theorem ml_L_19 : (Cond.methodLink R_L 19 y_L_volumesWith ∈ WS ∧ Cond.code y_L_volumesWith c_L_volumesWith 5 (some (.array (.object "ExtentGroup$Volume"))) ∈ WS ∧ Cond.initialized R_L ∈ WS) ∧ Cond.instanceMethod y_L_volumesWith ∈ WS ∧ Cond.selects R_L y_L_volumesWith y_L_volumesWith ∈ WS := ⟨⟨ws_at 263 rfl rfl, ws_at 266 rfl rfl, ws_at 59 rfl rfl⟩, ws_at 265 rfl rfl, ws_at 10 rfl rfl⟩
set_option maxRecDepth 100000 in
theorem cl_L_43 : Cond.classLink R_L 43 "ExtentGroup$Volume" ∈ WS := ws_at 267 rfl rfl
set_option maxRecDepth 100000 in
theorem ml_L_23 : (Cond.methodLink R_L 23 y_L_init ∈ WS ∧ Cond.code y_L_init c_L_init 3 none ∈ WS ∧ Cond.initialized R_L ∈ WS) ∧ Cond.instanceMethod y_L_init ∈ WS := ⟨⟨ws_at 268 rfl rfl, ws_at 89 rfl rfl, ws_at 59 rfl rfl⟩, ws_at 88 rfl rfl⟩
set_option maxRecDepth 100000 in
theorem ml_E_94 : (Cond.methodLink R_E 94 y_E_commit ∈ WS ∧ Cond.code y_E_commit c_E_commit 5 (some .boolean) ∈ WS ∧ Cond.initialized R_E ∈ WS) ∧ Cond.instanceMethod y_E_commit ∈ WS ∧ Cond.selects R_E y_E_commit y_E_commit ∈ WS := ⟨⟨ws_at 269 rfl rfl, ws_at 272 rfl rfl, ws_at 56 rfl rfl⟩, ws_at 271 rfl rfl, ws_at 11 rfl rfl⟩
set_option maxRecDepth 100000 in
theorem ml_E_224 : (Cond.methodLink R_E 224 y_D_slotBehind ∈ WS ∧ Cond.code y_D_slotBehind c_D_slotBehind 3 (some .int) ∈ WS ∧ Cond.initialized R_D ∈ WS) ∧ Cond.instanceMethod y_D_slotBehind ∈ WS ∧ Cond.selects R_D y_D_slotBehind y_D_slotBehind ∈ WS := ⟨⟨ws_at 273 rfl rfl, ws_at 276 rfl rfl, ws_at 60 rfl rfl⟩, ws_at 274 rfl rfl, ws_at 275 rfl rfl⟩
set_option maxRecDepth 100000 in
theorem ml_D_37 : (Cond.methodLink R_D 37 y_D_slotWith ∈ WS ∧ Cond.code y_D_slotWith c_D_slotWith 3 (some .int) ∈ WS ∧ Cond.initialized R_D ∈ WS) ∧ Cond.instanceMethod y_D_slotWith ∈ WS ∧ Cond.selects R_D y_D_slotWith y_D_slotWith ∈ WS := ⟨⟨ws_at 277 rfl rfl, ws_at 280 rfl rfl, ws_at 60 rfl rfl⟩, ws_at 278 rfl rfl, ws_at 279 rfl rfl⟩
set_option maxRecDepth 100000 in
theorem ml_D_33 : (Cond.methodLink R_D 33 y_C_isSame ∈ WS ∧ Cond.code y_C_isSame c_C_isSame 2 (some .boolean) ∈ WS ∧ Cond.initialized R_C ∈ WS) ∧ Cond.instanceMethod y_C_isSame ∈ WS ∧ Cond.selects R_C y_C_isSame y_C_isSame ∈ WS := ⟨⟨ws_at 281 rfl rfl, ws_at 284 rfl rfl, ws_at 58 rfl rfl⟩, ws_at 282 rfl rfl, ws_at 283 rfl rfl⟩
set_option maxRecDepth 100000 in
theorem ml_E_228 : (Cond.methodLink R_E 228 y_E_putCopy ∈ WS ∧ Cond.code y_E_putCopy c_E_putCopy 5 (some .boolean) ∈ WS ∧ Cond.initialized R_E ∈ WS) ∧ Cond.instanceMethod y_E_putCopy ∈ WS ∧ Cond.selects R_E y_E_putCopy y_E_putCopy ∈ WS := ⟨⟨ws_at 285 rfl rfl, ws_at 288 rfl rfl, ws_at 56 rfl rfl⟩, ws_at 287 rfl rfl, ws_at 12 rfl rfl⟩
set_option maxRecDepth 100000 in
theorem ml_E_218 : (Cond.methodLink R_E 218 y_E_mayAct ∈ WS ∧ Cond.code y_E_mayAct c_E_mayAct 1 (some .boolean) ∈ WS ∧ Cond.initialized R_E ∈ WS) ∧ Cond.instanceMethod y_E_mayAct ∈ WS ∧ Cond.selects R_E y_E_mayAct y_E_mayAct ∈ WS := ⟨⟨ws_at 289 rfl rfl, ws_at 292 rfl rfl, ws_at 56 rfl rfl⟩, ws_at 291 rfl rfl, ws_at 13 rfl rfl⟩
set_option maxRecDepth 100000 in
theorem ml_E_181 : (Cond.methodLink R_E 181 y_E_goDown ∈ WS ∧ Cond.code y_E_goDown c_E_goDown 1 none ∈ WS ∧ Cond.initialized R_E ∈ WS) ∧ Cond.instanceMethod y_E_goDown ∈ WS ∧ Cond.selects R_E y_E_goDown y_E_goDown ∈ WS := ⟨⟨ws_at 293 rfl rfl, ws_at 296 rfl rfl, ws_at 56 rfl rfl⟩, ws_at 295 rfl rfl, ws_at 14 rfl rfl⟩
set_option maxRecDepth 100000 in
theorem ml_W_26 : (Cond.methodLink R_W 26 y_E_extend ∈ WS ∧ Cond.code y_E_extend c_E_extend 5 (some .int) ∈ WS ∧ Cond.initialized R_E ∈ WS) ∧ Cond.instanceMethod y_E_extend ∈ WS ∧ Cond.selects R_E y_E_extend y_E_extend ∈ WS := ⟨⟨ws_at 297 rfl rfl, ws_at 300 rfl rfl, ws_at 56 rfl rfl⟩, ws_at 298 rfl rfl, ws_at 299 rfl rfl⟩
set_option maxRecDepth 100000 in
theorem ml_E_108 : (Cond.methodLink R_E 108 y_E_isMoving ∈ WS ∧ Cond.code y_E_isMoving c_E_isMoving 3 (some .boolean) ∈ WS ∧ Cond.initialized R_E ∈ WS) ∧ Cond.instanceMethod y_E_isMoving ∈ WS ∧ Cond.selects R_E y_E_isMoving y_E_isMoving ∈ WS := ⟨⟨ws_at 301 rfl rfl, ws_at 304 rfl rfl, ws_at 56 rfl rfl⟩, ws_at 303 rfl rfl, ws_at 15 rfl rfl⟩
set_option maxRecDepth 100000 in
theorem ml_E_112 : (Cond.methodLink R_E 112 y_U_withRows ∈ WS ∧ Cond.code y_U_withRows c_U_withRows 2 (some (.object "ExtentGroup$Volume")) ∈ WS ∧ Cond.initialized R_U ∈ WS) ∧ Cond.instanceMethod y_U_withRows ∈ WS ∧ Cond.selects R_U y_U_withRows y_U_withRows ∈ WS := ⟨⟨ws_at 305 rfl rfl, ws_at 308 rfl rfl, ws_at 62 rfl rfl⟩, ws_at 306 rfl rfl, ws_at 307 rfl rfl⟩
set_option maxRecDepth 100000 in
theorem cl_U_10 : Cond.classLink R_U 10 "ExtentGroup$Volume" ∈ WS := ws_at 309 rfl rfl
set_option maxRecDepth 100000 in
theorem ml_U_25 : (Cond.methodLink R_U 25 y_JA_copyOf ∈ WS ∧ Cond.code y_JA_copyOf c_JA_copyOf 3 (some (.array .int)) ∈ WS ∧ Cond.initialized R_JA ∈ WS) ∧ Cond.static y_JA_copyOf ∈ WS := ⟨⟨ws_at 310 rfl rfl, ws_at 312 rfl rfl, ws_at 63 rfl rfl⟩, ws_at 311 rfl rfl⟩
set_option maxRecDepth 100000 in
theorem cl_JA_317 : Cond.classLink R_JA 317 "[I" ∈ WS := ws_at 319 rfl rfl
set_option maxRecDepth 100000 in
theorem ml_JA_304 : (Cond.methodLink R_JA 304 y_JM_min ∈ WS ∧ Cond.code y_JM_min c_JM_min 2 (some .int) ∈ WS ∧ Cond.initialized R_JM ∈ WS) ∧ Cond.static y_JM_min ∈ WS := ⟨⟨ws_at 320 rfl rfl, ws_at 80 rfl rfl, ws_at 57 rfl rfl⟩, ws_at 79 rfl rfl⟩
set_option maxRecDepth 100000 in
theorem ml_U_31 : (Cond.methodLink R_U 31 y_U_init ∈ WS ∧ Cond.code y_U_init c_U_init 5 none ∈ WS ∧ Cond.initialized R_U ∈ WS) ∧ Cond.instanceMethod y_U_init ∈ WS := ⟨⟨ws_at 324 rfl rfl, ws_at 195 rfl rfl, ws_at 62 rfl rfl⟩, ws_at 194 rfl rfl⟩
set_option maxRecDepth 100000 in
theorem ml_W_31 : (Cond.methodLink R_W 31 y_E_reduce ∈ WS ∧ Cond.code y_E_reduce c_E_reduce 6 (some .int) ∈ WS ∧ Cond.initialized R_E ∈ WS) ∧ Cond.instanceMethod y_E_reduce ∈ WS ∧ Cond.selects R_E y_E_reduce y_E_reduce ∈ WS := ⟨⟨ws_at 325 rfl rfl, ws_at 328 rfl rfl, ws_at 56 rfl rfl⟩, ws_at 326 rfl rfl, ws_at 327 rfl rfl⟩
set_option maxRecDepth 100000 in
theorem ml_W_35 : (Cond.methodLink R_W 35 y_E_move ∈ WS ∧ Cond.code y_E_move c_E_move 7 (some .int) ∈ WS ∧ Cond.initialized R_E ∈ WS) ∧ Cond.instanceMethod y_E_move ∈ WS ∧ Cond.selects R_E y_E_move y_E_move ∈ WS := ⟨⟨ws_at 329 rfl rfl, ws_at 332 rfl rfl, ws_at 56 rfl rfl⟩, ws_at 330 rfl rfl, ws_at 331 rfl rfl⟩
set_option maxRecDepth 100000 in
theorem ml_E_115 : (Cond.methodLink R_E 115 y_U_hasExtent ∈ WS ∧ Cond.code y_U_hasExtent c_U_hasExtent 2 (some .boolean) ∈ WS ∧ Cond.initialized R_U ∈ WS) ∧ Cond.instanceMethod y_U_hasExtent ∈ WS ∧ Cond.selects R_U y_U_hasExtent y_U_hasExtent ∈ WS := ⟨⟨ws_at 333 rfl rfl, ws_at 336 rfl rfl, ws_at 62 rfl rfl⟩, ws_at 334 rfl rfl, ws_at 335 rfl rfl⟩
set_option maxRecDepth 100000 in
theorem ml_E_118 : (Cond.methodLink R_E 118 y_E_isDisk ∈ WS ∧ Cond.code y_E_isDisk c_E_isDisk 2 (some .boolean) ∈ WS ∧ Cond.initialized R_E ∈ WS) ∧ Cond.instanceMethod y_E_isDisk ∈ WS ∧ Cond.selects R_E y_E_isDisk y_E_isDisk ∈ WS := ⟨⟨ws_at 337 rfl rfl, ws_at 340 rfl rfl, ws_at 56 rfl rfl⟩, ws_at 339 rfl rfl, ws_at 16 rfl rfl⟩
set_option maxRecDepth 100000 in
theorem ml_E_128 : (Cond.methodLink R_E 128 y_E_diskOf ∈ WS ∧ Cond.code y_E_diskOf c_E_diskOf 2 (some (.object "ExtentGroup$Disk")) ∈ WS ∧ Cond.initialized R_E ∈ WS) ∧ Cond.instanceMethod y_E_diskOf ∈ WS ∧ Cond.selects R_E y_E_diskOf y_E_diskOf ∈ WS := ⟨⟨ws_at 341 rfl rfl, ws_at 344 rfl rfl, ws_at 56 rfl rfl⟩, ws_at 343 rfl rfl, ws_at 17 rfl rfl⟩
set_option maxRecDepth 100000 in
theorem cl_E_142 : Cond.classLink R_E 142 "ExtentGroup$Move" ∈ WS := ws_at 345 rfl rfl
set_option maxRecDepth 100000 in
theorem ml_E_144 : (Cond.methodLink R_E 144 y_V_init ∈ WS ∧ Cond.code y_V_init c_V_init 5 none ∈ WS ∧ Cond.initialized R_V ∈ WS) ∧ Cond.instanceMethod y_V_init ∈ WS := ⟨⟨ws_at 347 rfl rfl, ws_at 349 rfl rfl, ws_at 66 rfl rfl⟩, ws_at 348 rfl rfl⟩
set_option maxRecDepth 100000 in
theorem fl_V_7 : Cond.fieldLink R_V 7 "ExtentGroup$Move" "volume" "I" ∈ WS := ws_at 351 rfl rfl
set_option maxRecDepth 100000 in
theorem fl_L_26 : Cond.fieldLink R_L 26 "ExtentGroup$Move" "volume" "I" ∈ WS := ws_at 352 rfl rfl
set_option maxRecDepth 100000 in
theorem fl_E_198 : Cond.fieldLink R_E 198 "ExtentGroup$Move" "volume" "I" ∈ WS := ws_at 353 rfl rfl
set_option maxRecDepth 100000 in
theorem fl_V_13 : Cond.fieldLink R_V 13 "ExtentGroup$Move" "extent" "I" ∈ WS := ws_at 354 rfl rfl
set_option maxRecDepth 100000 in
theorem fl_L_36 : Cond.fieldLink R_L 36 "ExtentGroup$Move" "extent" "I" ∈ WS := ws_at 355 rfl rfl
set_option maxRecDepth 100000 in
theorem fl_E_201 : Cond.fieldLink R_E 201 "ExtentGroup$Move" "extent" "I" ∈ WS := ws_at 356 rfl rfl
set_option maxRecDepth 100000 in
theorem fl_V_16 : Cond.fieldLink R_V 16 "ExtentGroup$Move" "source" "I" ∈ WS := ws_at 357 rfl rfl
set_option maxRecDepth 100000 in
theorem fl_E_151 : Cond.fieldLink R_E 151 "ExtentGroup$Move" "source" "I" ∈ WS := ws_at 358 rfl rfl
set_option maxRecDepth 100000 in
theorem fl_V_19 : Cond.fieldLink R_V 19 "ExtentGroup$Move" "target" "I" ∈ WS := ws_at 359 rfl rfl
set_option maxRecDepth 100000 in
theorem fl_L_39 : Cond.fieldLink R_L 39 "ExtentGroup$Move" "target" "I" ∈ WS := ws_at 360 rfl rfl
set_option maxRecDepth 100000 in
theorem fl_E_154 : Cond.fieldLink R_E 154 "ExtentGroup$Move" "target" "I" ∈ WS := ws_at 361 rfl rfl
set_option maxRecDepth 100000 in
theorem ml_E_147 : (Cond.methodLink R_E 147 y_L_withMove ∈ WS ∧ Cond.code y_L_withMove c_L_withMove 2 (some (.object "ExtentGroup$Layout")) ∈ WS ∧ Cond.initialized R_L ∈ WS) ∧ Cond.instanceMethod y_L_withMove ∈ WS ∧ Cond.selects R_L y_L_withMove y_L_withMove ∈ WS := ⟨⟨ws_at 371 rfl rfl, ws_at 374 rfl rfl, ws_at 59 rfl rfl⟩, ws_at 372 rfl rfl, ws_at 373 rfl rfl⟩
set_option maxRecDepth 100000 in
theorem ml_W_39 : (Cond.methodLink R_W 39 y_E_step ∈ WS ∧ Cond.code y_E_step c_E_step 2 (some .int) ∈ WS ∧ Cond.initialized R_E ∈ WS) ∧ Cond.instanceMethod y_E_step ∈ WS ∧ Cond.selects R_E y_E_step y_E_step ∈ WS := ⟨⟨ws_at 375 rfl rfl, ws_at 378 rfl rfl, ws_at 56 rfl rfl⟩, ws_at 376 rfl rfl, ws_at 377 rfl rfl⟩
set_option maxRecDepth 100000 in
theorem ml_E_157 : (Cond.methodLink R_E 157 y_L_withMoveDone ∈ WS ∧ Cond.code y_L_withMoveDone c_L_withMoveDone 2 (some (.object "ExtentGroup$Layout")) ∈ WS ∧ Cond.initialized R_L ∈ WS) ∧ Cond.instanceMethod y_L_withMoveDone ∈ WS ∧ Cond.selects R_L y_L_withMoveDone y_L_withMoveDone ∈ WS := ⟨⟨ws_at 379 rfl rfl, ws_at 382 rfl rfl, ws_at 59 rfl rfl⟩, ws_at 380 rfl rfl, ws_at 381 rfl rfl⟩
set_option maxRecDepth 100000 in
theorem ml_L_32 : (Cond.methodLink R_L 32 y_L_volumeAt ∈ WS ∧ Cond.code y_L_volumeAt c_L_volumeAt 2 (some (.object "ExtentGroup$Volume")) ∈ WS ∧ Cond.initialized R_L ∈ WS) ∧ Cond.instanceMethod y_L_volumeAt ∈ WS ∧ Cond.selects R_L y_L_volumeAt y_L_volumeAt ∈ WS := ⟨⟨ws_at 383 rfl rfl, ws_at 227 rfl rfl, ws_at 59 rfl rfl⟩, ws_at 225 rfl rfl, ws_at 226 rfl rfl⟩
set_option maxRecDepth 100000 in
theorem ml_L_42 : (Cond.methodLink R_L 42 y_U_withPlace ∈ WS ∧ Cond.code y_U_withPlace c_U_withPlace 4 (some (.object "ExtentGroup$Volume")) ∈ WS ∧ Cond.initialized R_U ∈ WS) ∧ Cond.instanceMethod y_U_withPlace ∈ WS ∧ Cond.selects R_U y_U_withPlace y_U_withPlace ∈ WS := ⟨⟨ws_at 384 rfl rfl, ws_at 387 rfl rfl, ws_at 62 rfl rfl⟩, ws_at 385 rfl rfl, ws_at 386 rfl rfl⟩
set_option maxRecDepth 100000 in
theorem ml_U_34 : (Cond.methodLink R_U 34 y_U_withRows ∈ WS ∧ Cond.code y_U_withRows c_U_withRows 2 (some (.object "ExtentGroup$Volume")) ∈ WS ∧ Cond.initialized R_U ∈ WS) ∧ Cond.instanceMethod y_U_withRows ∈ WS ∧ Cond.selects R_U y_U_withRows y_U_withRows ∈ WS := ⟨⟨ws_at 388 rfl rfl, ws_at 308 rfl rfl, ws_at 62 rfl rfl⟩, ws_at 306 rfl rfl, ws_at 307 rfl rfl⟩
set_option maxRecDepth 100000 in
theorem ml_U_38 : (Cond.methodLink R_U 38 y_U_hasExtent ∈ WS ∧ Cond.code y_U_hasExtent c_U_hasExtent 2 (some .boolean) ∈ WS ∧ Cond.initialized R_U ∈ WS) ∧ Cond.instanceMethod y_U_hasExtent ∈ WS ∧ Cond.selects R_U y_U_hasExtent y_U_hasExtent ∈ WS := ⟨⟨ws_at 389 rfl rfl, ws_at 336 rfl rfl, ws_at 62 rfl rfl⟩, ws_at 334 rfl rfl, ws_at 335 rfl rfl⟩
set_option maxRecDepth 100000 in
theorem ml_E_161 : (Cond.methodLink R_E 161 y_E_cellAt ∈ WS ∧ Cond.code y_E_cellAt c_E_cellAt 3 (some .int) ∈ WS ∧ Cond.initialized R_E ∈ WS) ∧ Cond.instanceMethod y_E_cellAt ∈ WS ∧ Cond.selects R_E y_E_cellAt y_E_cellAt ∈ WS := ⟨⟨ws_at 390 rfl rfl, ws_at 393 rfl rfl, ws_at 56 rfl rfl⟩, ws_at 392 rfl rfl, ws_at 18 rfl rfl⟩
set_option maxRecDepth 100000 in
theorem ml_E_164 : (Cond.methodLink R_E 164 y_E_putCell ∈ WS ∧ Cond.code y_E_putCell c_E_putCell 4 (some .boolean) ∈ WS ∧ Cond.initialized R_E ∈ WS) ∧ Cond.instanceMethod y_E_putCell ∈ WS ∧ Cond.selects R_E y_E_putCell y_E_putCell ∈ WS := ⟨⟨ws_at 394 rfl rfl, ws_at 397 rfl rfl, ws_at 56 rfl rfl⟩, ws_at 396 rfl rfl, ws_at 19 rfl rfl⟩
set_option maxRecDepth 100000 in
theorem ml_W_44 : (Cond.methodLink R_W 44 y_E_cancel ∈ WS ∧ Cond.code y_E_cancel c_E_cancel 1 (some .int) ∈ WS ∧ Cond.initialized R_E ∈ WS) ∧ Cond.instanceMethod y_E_cancel ∈ WS ∧ Cond.selects R_E y_E_cancel y_E_cancel ∈ WS := ⟨⟨ws_at 398 rfl rfl, ws_at 401 rfl rfl, ws_at 56 rfl rfl⟩, ws_at 399 rfl rfl, ws_at 400 rfl rfl⟩
set_option maxRecDepth 100000 in
theorem ml_W_48 : (Cond.methodLink R_W 48 y_E_read ∈ WS ∧ Cond.code y_E_read c_E_read 5 (some .int) ∈ WS ∧ Cond.initialized R_E ∈ WS) ∧ Cond.instanceMethod y_E_read ∈ WS ∧ Cond.selects R_E y_E_read y_E_read ∈ WS := ⟨⟨ws_at 402 rfl rfl, ws_at 405 rfl rfl, ws_at 56 rfl rfl⟩, ws_at 403 rfl rfl, ws_at 404 rfl rfl⟩
set_option maxRecDepth 100000 in
theorem ml_E_168 : (Cond.methodLink R_E 168 y_U_hasBlock ∈ WS ∧ Cond.code y_U_hasBlock c_U_hasBlock 2 (some .boolean) ∈ WS ∧ Cond.initialized R_U ∈ WS) ∧ Cond.instanceMethod y_U_hasBlock ∈ WS ∧ Cond.selects R_U y_U_hasBlock y_U_hasBlock ∈ WS := ⟨⟨ws_at 406 rfl rfl, ws_at 409 rfl rfl, ws_at 62 rfl rfl⟩, ws_at 407 rfl rfl, ws_at 408 rfl rfl⟩
set_option maxRecDepth 100000 in
theorem ml_E_171 : (Cond.methodLink R_E 171 y_U_extentOf ∈ WS ∧ Cond.code y_U_extentOf c_U_extentOf 4 (some .int) ∈ WS ∧ Cond.initialized R_U ∈ WS) ∧ Cond.instanceMethod y_U_extentOf ∈ WS ∧ Cond.selects R_U y_U_extentOf y_U_extentOf ∈ WS := ⟨⟨ws_at 410 rfl rfl, ws_at 413 rfl rfl, ws_at 62 rfl rfl⟩, ws_at 411 rfl rfl, ws_at 412 rfl rfl⟩
set_option maxRecDepth 100000 in
theorem ml_E_174 : (Cond.methodLink R_E 174 y_U_cellOf ∈ WS ∧ Cond.code y_U_cellOf c_U_cellOf 3 (some .int) ∈ WS ∧ Cond.initialized R_U ∈ WS) ∧ Cond.instanceMethod y_U_cellOf ∈ WS ∧ Cond.selects R_U y_U_cellOf y_U_cellOf ∈ WS := ⟨⟨ws_at 414 rfl rfl, ws_at 417 rfl rfl, ws_at 62 rfl rfl⟩, ws_at 415 rfl rfl, ws_at 416 rfl rfl⟩
set_option maxRecDepth 100000 in
theorem ml_W_52 : (Cond.methodLink R_W 52 y_E_write ∈ WS ∧ Cond.code y_E_write c_E_write 9 (some .int) ∈ WS ∧ Cond.initialized R_E ∈ WS) ∧ Cond.instanceMethod y_E_write ∈ WS ∧ Cond.selects R_E y_E_write y_E_write ∈ WS := ⟨⟨ws_at 418 rfl rfl, ws_at 421 rfl rfl, ws_at 56 rfl rfl⟩, ws_at 419 rfl rfl, ws_at 420 rfl rfl⟩
set_option maxRecDepth 100000 in
theorem ml_E_177 : (Cond.methodLink R_E 177 y_E_copiedTo ∈ WS ∧ Cond.code y_E_copiedTo c_E_copiedTo 5 (some .int) ∈ WS ∧ Cond.initialized R_E ∈ WS) ∧ Cond.instanceMethod y_E_copiedTo ∈ WS ∧ Cond.selects R_E y_E_copiedTo y_E_copiedTo ∈ WS := ⟨⟨ws_at 422 rfl rfl, ws_at 425 rfl rfl, ws_at 56 rfl rfl⟩, ws_at 424 rfl rfl, ws_at 20 rfl rfl⟩
set_option maxRecDepth 100000 in
theorem ml_W_56 : (Cond.methodLink R_W 56 y_E_pull ∈ WS ∧ Cond.code y_E_pull c_E_pull 2 (some .boolean) ∈ WS ∧ Cond.initialized R_E ∈ WS) ∧ Cond.instanceMethod y_E_pull ∈ WS ∧ Cond.selects R_E y_E_pull y_E_pull ∈ WS := ⟨⟨ws_at 426 rfl rfl, ws_at 429 rfl rfl, ws_at 56 rfl rfl⟩, ws_at 427 rfl rfl, ws_at 428 rfl rfl⟩
set_option maxRecDepth 100000 in
theorem ml_W_61 : (Cond.methodLink R_W 61 y_E_plug ∈ WS ∧ Cond.code y_E_plug c_E_plug 2 (some .boolean) ∈ WS ∧ Cond.initialized R_E ∈ WS) ∧ Cond.instanceMethod y_E_plug ∈ WS ∧ Cond.selects R_E y_E_plug y_E_plug ∈ WS := ⟨⟨ws_at 430 rfl rfl, ws_at 433 rfl rfl, ws_at 56 rfl rfl⟩, ws_at 431 rfl rfl, ws_at 432 rfl rfl⟩
set_option maxRecDepth 100000 in
theorem ml_W_65 : (Cond.methodLink R_W 65 y_E_arm ∈ WS ∧ Cond.code y_E_arm c_E_arm 2 (some .boolean) ∈ WS ∧ Cond.initialized R_E ∈ WS) ∧ Cond.instanceMethod y_E_arm ∈ WS ∧ Cond.selects R_E y_E_arm y_E_arm ∈ WS := ⟨⟨ws_at 434 rfl rfl, ws_at 437 rfl rfl, ws_at 56 rfl rfl⟩, ws_at 435 rfl rfl, ws_at 436 rfl rfl⟩
set_option maxRecDepth 100000 in
theorem ml_W_69 : (Cond.methodLink R_W 69 y_E_crash ∈ WS ∧ Cond.code y_E_crash c_E_crash 1 (some .boolean) ∈ WS ∧ Cond.initialized R_E ∈ WS) ∧ Cond.instanceMethod y_E_crash ∈ WS ∧ Cond.selects R_E y_E_crash y_E_crash ∈ WS := ⟨⟨ws_at 438 rfl rfl, ws_at 441 rfl rfl, ws_at 56 rfl rfl⟩, ws_at 439 rfl rfl, ws_at 440 rfl rfl⟩
set_option maxRecDepth 100000 in
theorem ml_W_74 : (Cond.methodLink R_W 74 y_E_activate ∈ WS ∧ Cond.code y_E_activate c_E_activate 3 (some .int) ∈ WS ∧ Cond.initialized R_E ∈ WS) ∧ Cond.instanceMethod y_E_activate ∈ WS ∧ Cond.selects R_E y_E_activate y_E_activate ∈ WS := ⟨⟨ws_at 442 rfl rfl, ws_at 445 rfl rfl, ws_at 56 rfl rfl⟩, ws_at 443 rfl rfl, ws_at 444 rfl rfl⟩
set_option maxRecDepth 100000 in
theorem ml_E_184 : (Cond.methodLink R_E 184 y_E_choose ∈ WS ∧ Cond.code y_E_choose c_E_choose 6 (some (.object "ExtentGroup$Copy")) ∈ WS ∧ Cond.initialized R_E ∈ WS) ∧ Cond.instanceMethod y_E_choose ∈ WS ∧ Cond.selects R_E y_E_choose y_E_choose ∈ WS := ⟨⟨ws_at 446 rfl rfl, ws_at 449 rfl rfl, ws_at 56 rfl rfl⟩, ws_at 448 rfl rfl, ws_at 21 rfl rfl⟩
set_option maxRecDepth 100000 in
theorem ml_E_232 : (Cond.methodLink R_E 232 y_E_presentHolders ∈ WS ∧ Cond.code y_E_presentHolders c_E_presentHolders 4 (some .int) ∈ WS ∧ Cond.initialized R_E ∈ WS) ∧ Cond.instanceMethod y_E_presentHolders ∈ WS ∧ Cond.selects R_E y_E_presentHolders y_E_presentHolders ∈ WS := ⟨⟨ws_at 450 rfl rfl, ws_at 453 rfl rfl, ws_at 56 rfl rfl⟩, ws_at 452 rfl rfl, ws_at 22 rfl rfl⟩
set_option maxRecDepth 100000 in
theorem ml_E_235 : (Cond.methodLink R_E 235 y_D_slotWith ∈ WS ∧ Cond.code y_D_slotWith c_D_slotWith 3 (some .int) ∈ WS ∧ Cond.initialized R_D ∈ WS) ∧ Cond.instanceMethod y_D_slotWith ∈ WS ∧ Cond.selects R_D y_D_slotWith y_D_slotWith ∈ WS := ⟨⟨ws_at 454 rfl rfl, ws_at 280 rfl rfl, ws_at 60 rfl rfl⟩, ws_at 278 rfl rfl, ws_at 279 rfl rfl⟩
set_option maxRecDepth 100000 in
theorem ml_E_188 : (Cond.methodLink R_E 188 y_E_bringTo ∈ WS ∧ Cond.code y_E_bringTo c_E_bringTo 5 (some .boolean) ∈ WS ∧ Cond.initialized R_E ∈ WS) ∧ Cond.instanceMethod y_E_bringTo ∈ WS ∧ Cond.selects R_E y_E_bringTo y_E_bringTo ∈ WS := ⟨⟨ws_at 455 rfl rfl, ws_at 458 rfl rfl, ws_at 56 rfl rfl⟩, ws_at 457 rfl rfl, ws_at 23 rfl rfl⟩
set_option maxRecDepth 100000 in
theorem ml_W_78 : (Cond.methodLink R_W 78 y_E_where ∈ WS ∧ Cond.code y_E_where c_E_where 4 (some .int) ∈ WS ∧ Cond.initialized R_E ∈ WS) ∧ Cond.instanceMethod y_E_where ∈ WS ∧ Cond.selects R_E y_E_where y_E_where ∈ WS := ⟨⟨ws_at 459 rfl rfl, ws_at 462 rfl rfl, ws_at 56 rfl rfl⟩, ws_at 460 rfl rfl, ws_at 461 rfl rfl⟩
set_option maxRecDepth 100000 in
theorem ml_W_82 : (Cond.methodLink R_W 82 y_E_rows ∈ WS ∧ Cond.code y_E_rows c_E_rows 3 (some .int) ∈ WS ∧ Cond.initialized R_E ∈ WS) ∧ Cond.instanceMethod y_E_rows ∈ WS ∧ Cond.selects R_E y_E_rows y_E_rows ∈ WS := ⟨⟨ws_at 463 rfl rfl, ws_at 466 rfl rfl, ws_at 56 rfl rfl⟩, ws_at 464 rfl rfl, ws_at 465 rfl rfl⟩
set_option maxRecDepth 100000 in
theorem ml_W_87 : (Cond.methodLink R_W 87 y_E_free ∈ WS ∧ Cond.code y_E_free c_E_free 2 (some .int) ∈ WS ∧ Cond.initialized R_E ∈ WS) ∧ Cond.instanceMethod y_E_free ∈ WS ∧ Cond.selects R_E y_E_free y_E_free ∈ WS := ⟨⟨ws_at 467 rfl rfl, ws_at 470 rfl rfl, ws_at 56 rfl rfl⟩, ws_at 468 rfl rfl, ws_at 469 rfl rfl⟩
set_option maxRecDepth 100000 in
theorem ml_W_91 : (Cond.methodLink R_W 91 y_E_moving ∈ WS ∧ Cond.code y_E_moving c_E_moving 2 (some .int) ∈ WS ∧ Cond.initialized R_E ∈ WS) ∧ Cond.instanceMethod y_E_moving ∈ WS ∧ Cond.selects R_E y_E_moving y_E_moving ∈ WS := ⟨⟨ws_at 471 rfl rfl, ws_at 474 rfl rfl, ws_at 56 rfl rfl⟩, ws_at 472 rfl rfl, ws_at 473 rfl rfl⟩
set_option maxRecDepth 100000 in
theorem ml_W_95 : (Cond.methodLink R_W 95 y_E_sequence ∈ WS ∧ Cond.code y_E_sequence c_E_sequence 1 (some .int) ∈ WS ∧ Cond.initialized R_E ∈ WS) ∧ Cond.instanceMethod y_E_sequence ∈ WS ∧ Cond.selects R_E y_E_sequence y_E_sequence ∈ WS := ⟨⟨ws_at 475 rfl rfl, ws_at 478 rfl rfl, ws_at 56 rfl rfl⟩, ws_at 476 rfl rfl, ws_at 477 rfl rfl⟩
set_option maxRecDepth 100000 in
theorem ml_W_99 : (Cond.methodLink R_W 99 y_E_slot ∈ WS ∧ Cond.code y_E_slot c_E_slot 4 (some .int) ∈ WS ∧ Cond.initialized R_E ∈ WS) ∧ Cond.instanceMethod y_E_slot ∈ WS ∧ Cond.selects R_E y_E_slot y_E_slot ∈ WS := ⟨⟨ws_at 479 rfl rfl, ws_at 482 rfl rfl, ws_at 56 rfl rfl⟩, ws_at 480 rfl rfl, ws_at 481 rfl rfl⟩
set_option maxRecDepth 100000 in
theorem ml_W_9 : (Cond.methodLink R_W 9 y_W_cell ∈ WS ∧ Cond.code y_W_cell c_W_cell 2 (some .int) ∈ WS ∧ Cond.initialized R_W ∈ WS) ∧ Cond.static y_W_cell ∈ WS := ⟨⟨ws_at 483 rfl rfl, ws_at 485 rfl rfl, ws_at 55 rfl rfl⟩, ws_at 484 rfl rfl⟩
set_option maxRecDepth 100000 in
theorem cl_W_18 : Cond.classLink R_W 18 "ExtentGroupModel" ∈ WS := ws_at 486 rfl rfl
set_option maxRecDepth 100000 in
theorem ml_W_20 : (Cond.methodLink R_W 20 y_M_init ∈ WS ∧ Cond.code y_M_init c_M_init 4 none ∈ WS ∧ Cond.initialized R_M ∈ WS) ∧ Cond.instanceMethod y_M_init ∈ WS := ⟨⟨ws_at 488 rfl rfl, ws_at 490 rfl rfl, ws_at 61 rfl rfl⟩, ws_at 489 rfl rfl⟩
set_option maxRecDepth 100000 in
theorem fl_M_29 : Cond.fieldLink R_M 29 "ExtentGroupModel" "n" "I" ∈ WS := ws_at 492 rfl rfl
set_option maxRecDepth 100000 in
theorem fl_M_33 : Cond.fieldLink R_M 33 "ExtentGroupModel" "extents" "I" ∈ WS := ws_at 493 rfl rfl
set_option maxRecDepth 100000 in
theorem fl_M_7 : Cond.fieldLink R_M 7 "ExtentGroupModel" "here" "[Z" ∈ WS := ws_at 494 rfl rfl
set_option maxRecDepth 100000 in
theorem fl_M_13 : Cond.fieldLink R_M 13 "ExtentGroupModel" "cell" "[I" ∈ WS := ws_at 495 rfl rfl
set_option maxRecDepth 100000 in
theorem fl_M_17 : Cond.fieldLink R_M 17 "ExtentGroupModel" "maps" "[I" ∈ WS := ws_at 496 rfl rfl
set_option maxRecDepth 100000 in
theorem fl_M_20 : Cond.fieldLink R_M 20 "ExtentGroupModel" "slotNumber" "[I" ∈ WS := ws_at 497 rfl rfl
set_option maxRecDepth 100000 in
theorem fl_M_23 : Cond.fieldLink R_M 23 "ExtentGroupModel" "slotStamp" "[I" ∈ WS := ws_at 498 rfl rfl
set_option maxRecDepth 100000 in
theorem fl_M_26 : Cond.fieldLink R_M 26 "ExtentGroupModel" "written" "[I" ∈ WS := ws_at 499 rfl rfl
set_option maxRecDepth 100000 in
theorem fl_M_36 : Cond.fieldLink R_M 36 "ExtentGroupModel" "number" "I" ∈ WS := ws_at 500 rfl rfl
set_option maxRecDepth 100000 in
theorem fl_M_39 : Cond.fieldLink R_M 39 "ExtentGroupModel" "stamp" "I" ∈ WS := ws_at 501 rfl rfl
set_option maxRecDepth 100000 in
theorem fl_M_42 : Cond.fieldLink R_M 42 "ExtentGroupModel" "stamps" "I" ∈ WS := ws_at 502 rfl rfl
set_option maxRecDepth 100000 in
theorem fl_M_45 : Cond.fieldLink R_M 45 "ExtentGroupModel" "up" "Z" ∈ WS := ws_at 503 rfl rfl
set_option maxRecDepth 100000 in
theorem fl_M_126 : Cond.fieldLink R_M 126 "ExtentGroupModel" "copied" "I" ∈ WS := ws_at 504 rfl rfl
set_option maxRecDepth 100000 in
theorem fl_M_80 : Cond.fieldLink R_M 80 "ExtentGroupModel" "armed" "Z" ∈ WS := ws_at 505 rfl rfl
set_option maxRecDepth 100000 in
theorem fl_M_83 : Cond.fieldLink R_M 83 "ExtentGroupModel" "until" "I" ∈ WS := ws_at 506 rfl rfl
set_option maxRecDepth 100000 in
theorem ml_W_25 : (Cond.methodLink R_W 25 y_M_create ∈ WS ∧ Cond.code y_M_create c_M_create 6 (some .int) ∈ WS ∧ Cond.initialized R_M ∈ WS) ∧ Cond.instanceMethod y_M_create ∈ WS ∧ Cond.selects R_M y_M_create y_M_create ∈ WS := ⟨⟨ws_at 538 rfl rfl, ws_at 541 rfl rfl, ws_at 61 rfl rfl⟩, ws_at 539 rfl rfl, ws_at 540 rfl rfl⟩
set_option maxRecDepth 100000 in
theorem ml_M_108 : (Cond.methodLink R_M 108 y_M_few ∈ WS ∧ Cond.code y_M_few c_M_few 3 (some .boolean) ∈ WS ∧ Cond.initialized R_M ∈ WS) ∧ Cond.instanceMethod y_M_few ∈ WS ∧ Cond.selects R_M y_M_few y_M_few ∈ WS := ⟨⟨ws_at 542 rfl rfl, ws_at 545 rfl rfl, ws_at 61 rfl rfl⟩, ws_at 544 rfl rfl, ws_at 24 rfl rfl⟩
set_option maxRecDepth 100000 in
theorem ml_M_104 : (Cond.methodLink R_M 104 y_M_quorum ∈ WS ∧ Cond.code y_M_quorum c_M_quorum 2 (some .boolean) ∈ WS ∧ Cond.initialized R_M ∈ WS) ∧ Cond.instanceMethod y_M_quorum ∈ WS ∧ Cond.selects R_M y_M_quorum y_M_quorum ∈ WS := ⟨⟨ws_at 546 rfl rfl, ws_at 549 rfl rfl, ws_at 61 rfl rfl⟩, ws_at 548 rfl rfl, ws_at 25 rfl rfl⟩
set_option maxRecDepth 100000 in
theorem ml_M_53 : (Cond.methodLink R_M 53 y_M_rowsOf ∈ WS ∧ Cond.code y_M_rowsOf c_M_rowsOf 3 (some .int) ∈ WS ∧ Cond.initialized R_M ∈ WS) ∧ Cond.instanceMethod y_M_rowsOf ∈ WS ∧ Cond.selects R_M y_M_rowsOf y_M_rowsOf ∈ WS := ⟨⟨ws_at 550 rfl rfl, ws_at 553 rfl rfl, ws_at 61 rfl rfl⟩, ws_at 552 rfl rfl, ws_at 26 rfl rfl⟩
set_option maxRecDepth 100000 in
theorem ml_M_49 : (Cond.methodLink R_M 49 y_M_get ∈ WS ∧ Cond.code y_M_get c_M_get 3 (some .int) ∈ WS ∧ Cond.initialized R_M ∈ WS) ∧ Cond.instanceMethod y_M_get ∈ WS ∧ Cond.selects R_M y_M_get y_M_get ∈ WS := ⟨⟨ws_at 554 rfl rfl, ws_at 557 rfl rfl, ws_at 61 rfl rfl⟩, ws_at 556 rfl rfl, ws_at 27 rfl rfl⟩
set_option maxRecDepth 100000 in
theorem ml_M_90 : (Cond.methodLink R_M 90 y_M_copyMap ∈ WS ∧ Cond.code y_M_copyMap c_M_copyMap 4 none ∈ WS ∧ Cond.initialized R_M ∈ WS) ∧ Cond.instanceMethod y_M_copyMap ∈ WS ∧ Cond.selects R_M y_M_copyMap y_M_copyMap ∈ WS := ⟨⟨ws_at 558 rfl rfl, ws_at 561 rfl rfl, ws_at 61 rfl rfl⟩, ws_at 560 rfl rfl, ws_at 28 rfl rfl⟩
set_option maxRecDepth 100000 in
theorem ml_M_76 : (Cond.methodLink R_M 76 y_M_set ∈ WS ∧ Cond.code y_M_set c_M_set 4 none ∈ WS ∧ Cond.initialized R_M ∈ WS) ∧ Cond.instanceMethod y_M_set ∈ WS ∧ Cond.selects R_M y_M_set y_M_set ∈ WS := ⟨⟨ws_at 562 rfl rfl, ws_at 565 rfl rfl, ws_at 61 rfl rfl⟩, ws_at 564 rfl rfl, ws_at 29 rfl rfl⟩
set_option maxRecDepth 100000 in
theorem ml_M_111 : (Cond.methodLink R_M 111 y_M_addRow ∈ WS ∧ Cond.code y_M_addRow c_M_addRow 7 (some .boolean) ∈ WS ∧ Cond.initialized R_M ∈ WS) ∧ Cond.instanceMethod y_M_addRow ∈ WS ∧ Cond.selects R_M y_M_addRow y_M_addRow ∈ WS := ⟨⟨ws_at 566 rfl rfl, ws_at 569 rfl rfl, ws_at 61 rfl rfl⟩, ws_at 568 rfl rfl, ws_at 30 rfl rfl⟩
set_option maxRecDepth 100000 in
theorem ml_M_56 : (Cond.methodLink R_M 56 y_M_width ∈ WS ∧ Cond.code y_M_width c_M_width 3 (some .int) ∈ WS ∧ Cond.initialized R_M ∈ WS) ∧ Cond.instanceMethod y_M_width ∈ WS ∧ Cond.selects R_M y_M_width y_M_width ∈ WS := ⟨⟨ws_at 570 rfl rfl, ws_at 573 rfl rfl, ws_at 61 rfl rfl⟩, ws_at 572 rfl rfl, ws_at 31 rfl rfl⟩
set_option maxRecDepth 100000 in
theorem ml_M_66 : (Cond.methodLink R_M 66 y_M_freeOf ∈ WS ∧ Cond.code y_M_freeOf c_M_freeOf 5 (some .int) ∈ WS ∧ Cond.initialized R_M ∈ WS) ∧ Cond.instanceMethod y_M_freeOf ∈ WS ∧ Cond.selects R_M y_M_freeOf y_M_freeOf ∈ WS := ⟨⟨ws_at 574 rfl rfl, ws_at 577 rfl rfl, ws_at 61 rfl rfl⟩, ws_at 576 rfl rfl, ws_at 32 rfl rfl⟩
set_option maxRecDepth 100000 in
theorem ml_M_62 : (Cond.methodLink R_M 62 y_M_used ∈ WS ∧ Cond.code y_M_used c_M_used 7 (some .boolean) ∈ WS ∧ Cond.initialized R_M ∈ WS) ∧ Cond.instanceMethod y_M_used ∈ WS ∧ Cond.selects R_M y_M_used y_M_used ∈ WS := ⟨⟨ws_at 578 rfl rfl, ws_at 581 rfl rfl, ws_at 61 rfl rfl⟩, ws_at 580 rfl rfl, ws_at 33 rfl rfl⟩
set_option maxRecDepth 100000 in
theorem ml_M_59 : (Cond.methodLink R_M 59 y_M_extentsOf ∈ WS ∧ Cond.code y_M_extentsOf c_M_extentsOf 3 (some .int) ∈ WS ∧ Cond.initialized R_M ∈ WS) ∧ Cond.instanceMethod y_M_extentsOf ∈ WS ∧ Cond.selects R_M y_M_extentsOf y_M_extentsOf ∈ WS := ⟨⟨ws_at 582 rfl rfl, ws_at 585 rfl rfl, ws_at 61 rfl rfl⟩, ws_at 584 rfl rfl, ws_at 34 rfl rfl⟩
set_option maxRecDepth 100000 in
theorem ml_M_69 : (Cond.methodLink R_M 69 y_M_before ∈ WS ∧ Cond.code y_M_before c_M_before 6 (some .int) ∈ WS ∧ Cond.initialized R_M ∈ WS) ∧ Cond.instanceMethod y_M_before ∈ WS ∧ Cond.selects R_M y_M_before y_M_before ∈ WS := ⟨⟨ws_at 586 rfl rfl, ws_at 589 rfl rfl, ws_at 61 rfl rfl⟩, ws_at 588 rfl rfl, ws_at 35 rfl rfl⟩
set_option maxRecDepth 100000 in
theorem ml_M_73 : (Cond.methodLink R_M 73 y_M_leastFree ∈ WS ∧ Cond.code y_M_leastFree c_M_leastFree 4 (some .int) ∈ WS ∧ Cond.initialized R_M ∈ WS) ∧ Cond.instanceMethod y_M_leastFree ∈ WS ∧ Cond.selects R_M y_M_leastFree y_M_leastFree ∈ WS := ⟨⟨ws_at 590 rfl rfl, ws_at 593 rfl rfl, ws_at 61 rfl rfl⟩, ws_at 592 rfl rfl, ws_at 36 rfl rfl⟩
set_option maxRecDepth 100000 in
theorem ml_M_114 : (Cond.methodLink R_M 114 y_M_commit ∈ WS ∧ Cond.code y_M_commit c_M_commit 3 (some .boolean) ∈ WS ∧ Cond.initialized R_M ∈ WS) ∧ Cond.instanceMethod y_M_commit ∈ WS ∧ Cond.selects R_M y_M_commit y_M_commit ∈ WS := ⟨⟨ws_at 594 rfl rfl, ws_at 597 rfl rfl, ws_at 61 rfl rfl⟩, ws_at 596 rfl rfl, ws_at 37 rfl rfl⟩
set_option maxRecDepth 100000 in
theorem ml_M_97 : (Cond.methodLink R_M 97 y_M_slotBehind ∈ WS ∧ Cond.code y_M_slotBehind c_M_slotBehind 4 (some .int) ∈ WS ∧ Cond.initialized R_M ∈ WS) ∧ Cond.instanceMethod y_M_slotBehind ∈ WS ∧ Cond.selects R_M y_M_slotBehind y_M_slotBehind ∈ WS := ⟨⟨ws_at 598 rfl rfl, ws_at 601 rfl rfl, ws_at 61 rfl rfl⟩, ws_at 600 rfl rfl, ws_at 38 rfl rfl⟩
set_option maxRecDepth 100000 in
theorem ml_M_94 : (Cond.methodLink R_M 94 y_M_nextSlot ∈ WS ∧ Cond.code y_M_nextSlot c_M_nextSlot 2 (some .int) ∈ WS ∧ Cond.initialized R_M ∈ WS) ∧ Cond.instanceMethod y_M_nextSlot ∈ WS ∧ Cond.selects R_M y_M_nextSlot y_M_nextSlot ∈ WS := ⟨⟨ws_at 602 rfl rfl, ws_at 605 rfl rfl, ws_at 61 rfl rfl⟩, ws_at 604 rfl rfl, ws_at 39 rfl rfl⟩
set_option maxRecDepth 100000 in
theorem ml_M_100 : (Cond.methodLink R_M 100 y_M_writeCopy ∈ WS ∧ Cond.code y_M_writeCopy c_M_writeCopy 7 (some .boolean) ∈ WS ∧ Cond.initialized R_M ∈ WS) ∧ Cond.instanceMethod y_M_writeCopy ∈ WS ∧ Cond.selects R_M y_M_writeCopy y_M_writeCopy ∈ WS := ⟨⟨ws_at 606 rfl rfl, ws_at 609 rfl rfl, ws_at 61 rfl rfl⟩, ws_at 608 rfl rfl, ws_at 40 rfl rfl⟩
set_option maxRecDepth 100000 in
theorem ml_M_86 : (Cond.methodLink R_M 86 y_M_stops ∈ WS ∧ Cond.code y_M_stops c_M_stops 2 (some .boolean) ∈ WS ∧ Cond.initialized R_M ∈ WS) ∧ Cond.instanceMethod y_M_stops ∈ WS ∧ Cond.selects R_M y_M_stops y_M_stops ∈ WS := ⟨⟨ws_at 610 rfl rfl, ws_at 613 rfl rfl, ws_at 61 rfl rfl⟩, ws_at 612 rfl rfl, ws_at 41 rfl rfl⟩
set_option maxRecDepth 100000 in
theorem ml_W_30 : (Cond.methodLink R_W 30 y_M_extend ∈ WS ∧ Cond.code y_M_extend c_M_extend 4 (some .int) ∈ WS ∧ Cond.initialized R_M ∈ WS) ∧ Cond.instanceMethod y_M_extend ∈ WS ∧ Cond.selects R_M y_M_extend y_M_extend ∈ WS := ⟨⟨ws_at 614 rfl rfl, ws_at 617 rfl rfl, ws_at 61 rfl rfl⟩, ws_at 615 rfl rfl, ws_at 616 rfl rfl⟩
set_option maxRecDepth 100000 in
theorem ml_M_117 : (Cond.methodLink R_M 117 y_M_isVolume ∈ WS ∧ Cond.code y_M_isVolume c_M_isVolume 2 (some .boolean) ∈ WS ∧ Cond.initialized R_M ∈ WS) ∧ Cond.instanceMethod y_M_isVolume ∈ WS ∧ Cond.selects R_M y_M_isVolume y_M_isVolume ∈ WS := ⟨⟨ws_at 618 rfl rfl, ws_at 621 rfl rfl, ws_at 61 rfl rfl⟩, ws_at 620 rfl rfl, ws_at 42 rfl rfl⟩
set_option maxRecDepth 100000 in
theorem ml_M_120 : (Cond.methodLink R_M 120 y_M_isMoved ∈ WS ∧ Cond.code y_M_isMoved c_M_isMoved 2 (some .boolean) ∈ WS ∧ Cond.initialized R_M ∈ WS) ∧ Cond.instanceMethod y_M_isMoved ∈ WS ∧ Cond.selects R_M y_M_isMoved y_M_isMoved ∈ WS := ⟨⟨ws_at 622 rfl rfl, ws_at 625 rfl rfl, ws_at 61 rfl rfl⟩, ws_at 624 rfl rfl, ws_at 43 rfl rfl⟩
set_option maxRecDepth 100000 in
theorem ml_W_34 : (Cond.methodLink R_W 34 y_M_reduce ∈ WS ∧ Cond.code y_M_reduce c_M_reduce 3 (some .int) ∈ WS ∧ Cond.initialized R_M ∈ WS) ∧ Cond.instanceMethod y_M_reduce ∈ WS ∧ Cond.selects R_M y_M_reduce y_M_reduce ∈ WS := ⟨⟨ws_at 626 rfl rfl, ws_at 629 rfl rfl, ws_at 61 rfl rfl⟩, ws_at 627 rfl rfl, ws_at 628 rfl rfl⟩
set_option maxRecDepth 100000 in
theorem ml_W_38 : (Cond.methodLink R_W 38 y_M_move ∈ WS ∧ Cond.code y_M_move c_M_move 6 (some .int) ∈ WS ∧ Cond.initialized R_M ∈ WS) ∧ Cond.instanceMethod y_M_move ∈ WS ∧ Cond.selects R_M y_M_move y_M_move ∈ WS := ⟨⟨ws_at 630 rfl rfl, ws_at 633 rfl rfl, ws_at 61 rfl rfl⟩, ws_at 631 rfl rfl, ws_at 632 rfl rfl⟩
set_option maxRecDepth 100000 in
theorem ml_M_123 : (Cond.methodLink R_M 123 y_M_isExtent ∈ WS ∧ Cond.code y_M_isExtent c_M_isExtent 3 (some .boolean) ∈ WS ∧ Cond.initialized R_M ∈ WS) ∧ Cond.instanceMethod y_M_isExtent ∈ WS ∧ Cond.selects R_M y_M_isExtent y_M_isExtent ∈ WS := ⟨⟨ws_at 634 rfl rfl, ws_at 637 rfl rfl, ws_at 61 rfl rfl⟩, ws_at 636 rfl rfl, ws_at 44 rfl rfl⟩
set_option maxRecDepth 100000 in
theorem ml_W_43 : (Cond.methodLink R_W 43 y_M_step ∈ WS ∧ Cond.code y_M_step c_M_step 3 (some .int) ∈ WS ∧ Cond.initialized R_M ∈ WS) ∧ Cond.instanceMethod y_M_step ∈ WS ∧ Cond.selects R_M y_M_step y_M_step ∈ WS := ⟨⟨ws_at 638 rfl rfl, ws_at 641 rfl rfl, ws_at 61 rfl rfl⟩, ws_at 639 rfl rfl, ws_at 640 rfl rfl⟩
set_option maxRecDepth 100000 in
theorem ml_M_129 : (Cond.methodLink R_M 129 y_M_source ∈ WS ∧ Cond.code y_M_source c_M_source 1 (some .int) ∈ WS ∧ Cond.initialized R_M ∈ WS) ∧ Cond.instanceMethod y_M_source ∈ WS ∧ Cond.selects R_M y_M_source y_M_source ∈ WS := ⟨⟨ws_at 642 rfl rfl, ws_at 645 rfl rfl, ws_at 61 rfl rfl⟩, ws_at 644 rfl rfl, ws_at 45 rfl rfl⟩
set_option maxRecDepth 100000 in
theorem ml_M_133 : (Cond.methodLink R_M 133 y_M_target ∈ WS ∧ Cond.code y_M_target c_M_target 1 (some .int) ∈ WS ∧ Cond.initialized R_M ∈ WS) ∧ Cond.instanceMethod y_M_target ∈ WS ∧ Cond.selects R_M y_M_target y_M_target ∈ WS := ⟨⟨ws_at 646 rfl rfl, ws_at 649 rfl rfl, ws_at 61 rfl rfl⟩, ws_at 648 rfl rfl, ws_at 46 rfl rfl⟩
set_option maxRecDepth 100000 in
theorem ml_M_136 : (Cond.methodLink R_M 136 y_M_cellAt ∈ WS ∧ Cond.code y_M_cellAt c_M_cellAt 3 (some .int) ∈ WS ∧ Cond.initialized R_M ∈ WS) ∧ Cond.instanceMethod y_M_cellAt ∈ WS ∧ Cond.selects R_M y_M_cellAt y_M_cellAt ∈ WS := ⟨⟨ws_at 650 rfl rfl, ws_at 653 rfl rfl, ws_at 61 rfl rfl⟩, ws_at 652 rfl rfl, ws_at 47 rfl rfl⟩
set_option maxRecDepth 100000 in
theorem ml_W_47 : (Cond.methodLink R_W 47 y_M_cancel ∈ WS ∧ Cond.code y_M_cancel c_M_cancel 1 (some .int) ∈ WS ∧ Cond.initialized R_M ∈ WS) ∧ Cond.instanceMethod y_M_cancel ∈ WS ∧ Cond.selects R_M y_M_cancel y_M_cancel ∈ WS := ⟨⟨ws_at 654 rfl rfl, ws_at 657 rfl rfl, ws_at 61 rfl rfl⟩, ws_at 655 rfl rfl, ws_at 656 rfl rfl⟩
set_option maxRecDepth 100000 in
theorem ml_W_51 : (Cond.methodLink R_W 51 y_M_read ∈ WS ∧ Cond.code y_M_read c_M_read 5 (some .int) ∈ WS ∧ Cond.initialized R_M ∈ WS) ∧ Cond.instanceMethod y_M_read ∈ WS ∧ Cond.selects R_M y_M_read y_M_read ∈ WS := ⟨⟨ws_at 658 rfl rfl, ws_at 661 rfl rfl, ws_at 61 rfl rfl⟩, ws_at 659 rfl rfl, ws_at 660 rfl rfl⟩
set_option maxRecDepth 100000 in
theorem ml_M_139 : (Cond.methodLink R_M 139 y_M_isBlock ∈ WS ∧ Cond.code y_M_isBlock c_M_isBlock 3 (some .boolean) ∈ WS ∧ Cond.initialized R_M ∈ WS) ∧ Cond.instanceMethod y_M_isBlock ∈ WS ∧ Cond.selects R_M y_M_isBlock y_M_isBlock ∈ WS := ⟨⟨ws_at 662 rfl rfl, ws_at 665 rfl rfl, ws_at 61 rfl rfl⟩, ws_at 664 rfl rfl, ws_at 48 rfl rfl⟩
set_option maxRecDepth 100000 in
theorem ml_M_142 : (Cond.methodLink R_M 142 y_M_extentOf ∈ WS ∧ Cond.code y_M_extentOf c_M_extentOf 6 (some .int) ∈ WS ∧ Cond.initialized R_M ∈ WS) ∧ Cond.instanceMethod y_M_extentOf ∈ WS ∧ Cond.selects R_M y_M_extentOf y_M_extentOf ∈ WS := ⟨⟨ws_at 666 rfl rfl, ws_at 669 rfl rfl, ws_at 61 rfl rfl⟩, ws_at 668 rfl rfl, ws_at 49 rfl rfl⟩
set_option maxRecDepth 100000 in
theorem ml_M_145 : (Cond.methodLink R_M 145 y_M_cellOf ∈ WS ∧ Cond.code y_M_cellOf c_M_cellOf 6 (some .int) ∈ WS ∧ Cond.initialized R_M ∈ WS) ∧ Cond.instanceMethod y_M_cellOf ∈ WS ∧ Cond.selects R_M y_M_cellOf y_M_cellOf ∈ WS := ⟨⟨ws_at 670 rfl rfl, ws_at 673 rfl rfl, ws_at 61 rfl rfl⟩, ws_at 672 rfl rfl, ws_at 50 rfl rfl⟩
set_option maxRecDepth 100000 in
theorem ml_W_55 : (Cond.methodLink R_W 55 y_M_write ∈ WS ∧ Cond.code y_M_write c_M_write 8 (some .int) ∈ WS ∧ Cond.initialized R_M ∈ WS) ∧ Cond.instanceMethod y_M_write ∈ WS ∧ Cond.selects R_M y_M_write y_M_write ∈ WS := ⟨⟨ws_at 674 rfl rfl, ws_at 677 rfl rfl, ws_at 61 rfl rfl⟩, ws_at 675 rfl rfl, ws_at 676 rfl rfl⟩
set_option maxRecDepth 100000 in
theorem ml_W_60 : (Cond.methodLink R_W 60 y_M_pull ∈ WS ∧ Cond.code y_M_pull c_M_pull 2 (some .boolean) ∈ WS ∧ Cond.initialized R_M ∈ WS) ∧ Cond.instanceMethod y_M_pull ∈ WS ∧ Cond.selects R_M y_M_pull y_M_pull ∈ WS := ⟨⟨ws_at 678 rfl rfl, ws_at 681 rfl rfl, ws_at 61 rfl rfl⟩, ws_at 679 rfl rfl, ws_at 680 rfl rfl⟩
set_option maxRecDepth 100000 in
theorem ml_M_148 : (Cond.methodLink R_M 148 y_M_isDisk ∈ WS ∧ Cond.code y_M_isDisk c_M_isDisk 2 (some .boolean) ∈ WS ∧ Cond.initialized R_M ∈ WS) ∧ Cond.instanceMethod y_M_isDisk ∈ WS ∧ Cond.selects R_M y_M_isDisk y_M_isDisk ∈ WS := ⟨⟨ws_at 682 rfl rfl, ws_at 685 rfl rfl, ws_at 61 rfl rfl⟩, ws_at 684 rfl rfl, ws_at 51 rfl rfl⟩
set_option maxRecDepth 100000 in
theorem ml_W_64 : (Cond.methodLink R_W 64 y_M_plug ∈ WS ∧ Cond.code y_M_plug c_M_plug 2 (some .boolean) ∈ WS ∧ Cond.initialized R_M ∈ WS) ∧ Cond.instanceMethod y_M_plug ∈ WS ∧ Cond.selects R_M y_M_plug y_M_plug ∈ WS := ⟨⟨ws_at 686 rfl rfl, ws_at 689 rfl rfl, ws_at 61 rfl rfl⟩, ws_at 687 rfl rfl, ws_at 688 rfl rfl⟩
set_option maxRecDepth 100000 in
theorem ml_W_68 : (Cond.methodLink R_W 68 y_M_arm ∈ WS ∧ Cond.code y_M_arm c_M_arm 2 (some .boolean) ∈ WS ∧ Cond.initialized R_M ∈ WS) ∧ Cond.instanceMethod y_M_arm ∈ WS ∧ Cond.selects R_M y_M_arm y_M_arm ∈ WS := ⟨⟨ws_at 690 rfl rfl, ws_at 693 rfl rfl, ws_at 61 rfl rfl⟩, ws_at 691 rfl rfl, ws_at 692 rfl rfl⟩
set_option maxRecDepth 100000 in
theorem ml_W_73 : (Cond.methodLink R_W 73 y_M_crash ∈ WS ∧ Cond.code y_M_crash c_M_crash 1 (some .boolean) ∈ WS ∧ Cond.initialized R_M ∈ WS) ∧ Cond.instanceMethod y_M_crash ∈ WS ∧ Cond.selects R_M y_M_crash y_M_crash ∈ WS := ⟨⟨ws_at 694 rfl rfl, ws_at 697 rfl rfl, ws_at 61 rfl rfl⟩, ws_at 695 rfl rfl, ws_at 696 rfl rfl⟩
set_option maxRecDepth 100000 in
theorem ml_W_77 : (Cond.methodLink R_W 77 y_M_activate ∈ WS ∧ Cond.code y_M_activate c_M_activate 5 (some .int) ∈ WS ∧ Cond.initialized R_M ∈ WS) ∧ Cond.instanceMethod y_M_activate ∈ WS ∧ Cond.selects R_M y_M_activate y_M_activate ∈ WS := ⟨⟨ws_at 698 rfl rfl, ws_at 701 rfl rfl, ws_at 61 rfl rfl⟩, ws_at 699 rfl rfl, ws_at 700 rfl rfl⟩
set_option maxRecDepth 100000 in
theorem ml_M_155 : (Cond.methodLink R_M 155 y_M_choose ∈ WS ∧ Cond.code y_M_choose c_M_choose 5 (some .int) ∈ WS ∧ Cond.initialized R_M ∈ WS) ∧ Cond.instanceMethod y_M_choose ∈ WS ∧ Cond.selects R_M y_M_choose y_M_choose ∈ WS := ⟨⟨ws_at 702 rfl rfl, ws_at 705 rfl rfl, ws_at 61 rfl rfl⟩, ws_at 704 rfl rfl, ws_at 52 rfl rfl⟩
set_option maxRecDepth 100000 in
theorem ml_M_151 : (Cond.methodLink R_M 151 y_M_holds ∈ WS ∧ Cond.code y_M_holds c_M_holds 6 (some .boolean) ∈ WS ∧ Cond.initialized R_M ∈ WS) ∧ Cond.instanceMethod y_M_holds ∈ WS ∧ Cond.selects R_M y_M_holds y_M_holds ∈ WS := ⟨⟨ws_at 706 rfl rfl, ws_at 709 rfl rfl, ws_at 61 rfl rfl⟩, ws_at 708 rfl rfl, ws_at 53 rfl rfl⟩
set_option maxRecDepth 100000 in
theorem ml_M_158 : (Cond.methodLink R_M 158 y_M_settle ∈ WS ∧ Cond.code y_M_settle c_M_settle 5 (some .boolean) ∈ WS ∧ Cond.initialized R_M ∈ WS) ∧ Cond.instanceMethod y_M_settle ∈ WS ∧ Cond.selects R_M y_M_settle y_M_settle ∈ WS := ⟨⟨ws_at 710 rfl rfl, ws_at 713 rfl rfl, ws_at 61 rfl rfl⟩, ws_at 712 rfl rfl, ws_at 54 rfl rfl⟩
set_option maxRecDepth 100000 in
theorem ml_W_81 : (Cond.methodLink R_W 81 y_M_where ∈ WS ∧ Cond.code y_M_where c_M_where 3 (some .int) ∈ WS ∧ Cond.initialized R_M ∈ WS) ∧ Cond.instanceMethod y_M_where ∈ WS ∧ Cond.selects R_M y_M_where y_M_where ∈ WS := ⟨⟨ws_at 714 rfl rfl, ws_at 717 rfl rfl, ws_at 61 rfl rfl⟩, ws_at 715 rfl rfl, ws_at 716 rfl rfl⟩
set_option maxRecDepth 100000 in
theorem ml_W_86 : (Cond.methodLink R_W 86 y_M_rows ∈ WS ∧ Cond.code y_M_rows c_M_rows 2 (some .int) ∈ WS ∧ Cond.initialized R_M ∈ WS) ∧ Cond.instanceMethod y_M_rows ∈ WS ∧ Cond.selects R_M y_M_rows y_M_rows ∈ WS := ⟨⟨ws_at 718 rfl rfl, ws_at 721 rfl rfl, ws_at 61 rfl rfl⟩, ws_at 719 rfl rfl, ws_at 720 rfl rfl⟩
set_option maxRecDepth 100000 in
theorem ml_W_90 : (Cond.methodLink R_W 90 y_M_free ∈ WS ∧ Cond.code y_M_free c_M_free 2 (some .int) ∈ WS ∧ Cond.initialized R_M ∈ WS) ∧ Cond.instanceMethod y_M_free ∈ WS ∧ Cond.selects R_M y_M_free y_M_free ∈ WS := ⟨⟨ws_at 722 rfl rfl, ws_at 725 rfl rfl, ws_at 61 rfl rfl⟩, ws_at 723 rfl rfl, ws_at 724 rfl rfl⟩
set_option maxRecDepth 100000 in
theorem ml_W_94 : (Cond.methodLink R_W 94 y_M_moving ∈ WS ∧ Cond.code y_M_moving c_M_moving 2 (some .int) ∈ WS ∧ Cond.initialized R_M ∈ WS) ∧ Cond.instanceMethod y_M_moving ∈ WS ∧ Cond.selects R_M y_M_moving y_M_moving ∈ WS := ⟨⟨ws_at 726 rfl rfl, ws_at 729 rfl rfl, ws_at 61 rfl rfl⟩, ws_at 727 rfl rfl, ws_at 728 rfl rfl⟩
set_option maxRecDepth 100000 in
theorem ml_W_98 : (Cond.methodLink R_W 98 y_M_sequence ∈ WS ∧ Cond.code y_M_sequence c_M_sequence 1 (some .int) ∈ WS ∧ Cond.initialized R_M ∈ WS) ∧ Cond.instanceMethod y_M_sequence ∈ WS ∧ Cond.selects R_M y_M_sequence y_M_sequence ∈ WS := ⟨⟨ws_at 730 rfl rfl, ws_at 733 rfl rfl, ws_at 61 rfl rfl⟩, ws_at 731 rfl rfl, ws_at 732 rfl rfl⟩
set_option maxRecDepth 100000 in
theorem ml_W_102 : (Cond.methodLink R_W 102 y_M_slot ∈ WS ∧ Cond.code y_M_slot c_M_slot 3 (some .int) ∈ WS ∧ Cond.initialized R_M ∈ WS) ∧ Cond.instanceMethod y_M_slot ∈ WS ∧ Cond.selects R_M y_M_slot y_M_slot ∈ WS := ⟨⟨ws_at 734 rfl rfl, ws_at 737 rfl rfl, ws_at 61 rfl rfl⟩, ws_at 735 rfl rfl, ws_at 736 rfl rfl⟩
set_option maxRecDepth 100000 in
theorem kc_acopy_4 : Cond.initialized "java/lang/System" ∈ WS := ws_at 65 rfl rfl
set_option maxRecDepth 100000 in
theorem oi_E : Cond.methodLink R_E 1 Lib.objectInit ∈ WS := ws_at 72 rfl rfl
set_option maxRecDepth 100000 in
theorem oi_inst : Cond.instanceMethod Lib.objectInit ∈ WS := ws_at 73 rfl rfl
set_option maxRecDepth 100000 in
theorem oi_code : Cond.code Lib.objectInit ⟨#[0xb1]⟩ 1 none ∈ WS := ws_at 74 rfl rfl
set_option maxRecDepth 100000 in
theorem oi_L : Cond.methodLink R_L 3 Lib.objectInit ∈ WS := ws_at 90 rfl rfl
set_option maxRecDepth 100000 in
theorem oi_C : Cond.methodLink R_C 1 Lib.objectInit ∈ WS := ws_at 102 rfl rfl
set_option maxRecDepth 100000 in
theorem oi_D : Cond.methodLink R_D 3 Lib.objectInit ∈ WS := ws_at 122 rfl rfl
set_option maxRecDepth 100000 in
theorem kc_arr_int : Cond.arrayClass .int ∈ WS := ws_at 146 rfl rfl
set_option maxRecDepth 100000 in
theorem kc_arr_boolean : Cond.arrayClass .boolean ∈ WS := ws_at 147 rfl rfl
set_option maxRecDepth 100000 in
theorem oi_U : Cond.methodLink R_U 3 Lib.objectInit ∈ WS := ws_at 196 rfl rfl
set_option maxRecDepth 100000 in
theorem kc_JI_265 : Cond.constant R_JI 265 1431655765 ∈ WS := ws_at 247 rfl rfl
set_option maxRecDepth 100000 in
theorem kc_JI_266 : Cond.constant R_JI 266 858993459 ∈ WS := ws_at 248 rfl rfl
set_option maxRecDepth 100000 in
theorem kc_JI_267 : Cond.constant R_JI 267 252645135 ∈ WS := ws_at 249 rfl rfl
set_option maxRecDepth 100000 in
theorem kc_clone_1 : Cond.methodLink R_JA 316 ⟨"[I", "clone", "()Ljava/lang/Object;"⟩ ∈ WS := ws_at 313 rfl rfl
set_option maxRecDepth 100000 in
theorem kc_clone_2 : Cond.sameMethod "[I" "java/lang/Object" "clone" "()Ljava/lang/Object;" ∈ WS := ws_at 314 rfl rfl
set_option maxRecDepth 100000 in
theorem kc_clone_3 : Cond.native ⟨"java/lang/Object", "clone", "()Ljava/lang/Object;"⟩ ∈ WS := ws_at 315 rfl rfl
set_option maxRecDepth 100000 in
theorem kc_clone_4 : Cond.instanceMethod ⟨"java/lang/Object", "clone", "()Ljava/lang/Object;"⟩ ∈ WS := ws_at 316 rfl rfl
set_option maxRecDepth 100000 in
theorem kc_clone_5 : Cond.selects "[I" ⟨"[I", "clone", "()Ljava/lang/Object;"⟩ ⟨"java/lang/Object", "clone", "()Ljava/lang/Object;"⟩ ∈ WS := ws_at 317 rfl rfl
set_option maxRecDepth 100000 in
theorem kc_acopy_1 : Cond.methodLink R_JA 150 arraycopyName ∈ WS := ws_at 321 rfl rfl
set_option maxRecDepth 100000 in
theorem kc_acopy_3 : Cond.static arraycopyName ∈ WS := ws_at 322 rfl rfl
set_option maxRecDepth 100000 in
theorem kc_acopy_2 : Cond.native arraycopyName ∈ WS := ws_at 323 rfl rfl
set_option maxRecDepth 100000 in
theorem oi_V : Cond.methodLink R_V 1 Lib.objectInit ∈ WS := ws_at 350 rfl rfl
set_option maxRecDepth 100000 in
theorem oi_M : Cond.methodLink R_M 1 Lib.objectInit ∈ WS := ws_at 491 rfl rfl
set_option maxRecDepth 100000 in
theorem mk_C : Cond.instantiable R_C 3 ∈ WS ∧ Cond.initialized R_C ∈ WS := ⟨ws_at 82 rfl rfl, ws_at 58 rfl rfl⟩
set_option maxRecDepth 100000 in
theorem mk_D : Cond.instantiable R_D 5 ∈ WS ∧ Cond.initialized R_D ∈ WS := ⟨ws_at 118 rfl rfl, ws_at 60 rfl rfl⟩
set_option maxRecDepth 100000 in
theorem mk_L : Cond.instantiable R_L 2 ∈ WS ∧ Cond.initialized R_L ∈ WS := ⟨ws_at 84 rfl rfl, ws_at 59 rfl rfl⟩
set_option maxRecDepth 100000 in
theorem mk_U : Cond.instantiable R_U 4 ∈ WS ∧ Cond.initialized R_U ∈ WS := ⟨ws_at 192 rfl rfl, ws_at 62 rfl rfl⟩
set_option maxRecDepth 100000 in
theorem mk_E : Cond.instantiable R_E 8 ∈ WS ∧ Cond.initialized R_E ∈ WS := ⟨ws_at 68 rfl rfl, ws_at 56 rfl rfl⟩
set_option maxRecDepth 100000 in
theorem mk_V : Cond.instantiable R_V 4 ∈ WS ∧ Cond.initialized R_V ∈ WS := ⟨ws_at 346 rfl rfl, ws_at 66 rfl rfl⟩
set_option maxRecDepth 100000 in
theorem mk_M : Cond.instantiable R_M 15 ∈ WS ∧ Cond.initialized R_M ∈ WS := ⟨ws_at 487 rfl rfl, ws_at 61 rfl rfl⟩
