/-! names: classes, fields in the order of their slots, codes -/
abbrev R_Mach : String := "ReadBarrierMachine"
def F_Mach : u_T := fun k => match k with
  | 0 => ("ReadBarrierMachine", "kinds", "LReadBarrierMachine$Kinds;", true)
  | 1 => ("ReadBarrierMachine", "methods", "LReadBarrierMachine$Methods;", true)
  | 2 => ("ReadBarrierMachine", "room", "LReadBarrierMachine$Room;", true)
  | 3 => ("ReadBarrierMachine", "latestShown", "[I", true)
  | 4 => ("ReadBarrierMachine", "shownCount", "I", false)
  | 5 => ("ReadBarrierMachine", "phase", "I", false)
  | 6 => ("ReadBarrierMachine", "outcome", "I", false)
  | 7 => ("ReadBarrierMachine", "pending", "Z", false)
  | 8 => ("ReadBarrierMachine", "exception", "I", false)
  | _ => ("ReadBarrierMachine", "greatestWork", "I", false)
def t_Mach : Nat → FieldType := fun k => match k with
  | 0 => .object "ReadBarrierMachine$Kinds"
  | 1 => .object "ReadBarrierMachine$Methods"
  | 2 => .object "ReadBarrierMachine$Room"
  | 3 => .array .int
  | 4 => .int
  | 5 => .int
  | 6 => .int
  | 7 => .boolean
  | 8 => .int
  | _ => .int
theorem n_Mach : ∀ a, a < 10 → ∀ b, b < 10 → a ≠ b → (F_Mach a).2.1 ≠ (F_Mach b).2.1 := by decide +kernel
theorem t_Mach_ok : ∀ k, k < 10 → parseFieldDescriptor (F_Mach k).2.2.1 = some (t_Mach k) := by decide +kernel
abbrev R_Kinds : String := "ReadBarrierMachine$Kinds"
def F_Kinds : u_T := fun k => match k with
  | 0 => ("ReadBarrierMachine$Kinds", "refCounts", "[I", true)
  | 1 => ("ReadBarrierMachine$Kinds", "intCounts", "[I", true)
  | 2 => ("ReadBarrierMachine$Kinds", "table", "[I", true)
  | _ => ("ReadBarrierMachine$Kinds", "loaded", "I", false)
def t_Kinds : Nat → FieldType := fun k => match k with
  | 0 => .array .int
  | 1 => .array .int
  | 2 => .array .int
  | _ => .int
theorem n_Kinds : ∀ a, a < 4 → ∀ b, b < 4 → a ≠ b → (F_Kinds a).2.1 ≠ (F_Kinds b).2.1 := by decide +kernel
theorem t_Kinds_ok : ∀ k, k < 4 → parseFieldDescriptor (F_Kinds k).2.2.1 = some (t_Kinds k) := by decide +kernel
abbrev R_Meths : String := "ReadBarrierMachine$Methods"
def F_Meths : u_T := fun k => match k with
  | 0 => ("ReadBarrierMachine$Methods", "handlers", "[I", true)
  | 1 => ("ReadBarrierMachine$Methods", "lengths", "[I", true)
  | 2 => ("ReadBarrierMachine$Methods", "ops", "[I", true)
  | 3 => ("ReadBarrierMachine$Methods", "xs", "[I", true)
  | 4 => ("ReadBarrierMachine$Methods", "ys", "[I", true)
  | 5 => ("ReadBarrierMachine$Methods", "zs", "[I", true)
  | 6 => ("ReadBarrierMachine$Methods", "finished", "I", false)
  | _ => ("ReadBarrierMachine$Methods", "isOpen", "Z", false)
def t_Meths : Nat → FieldType := fun k => match k with
  | 0 => .array .int
  | 1 => .array .int
  | 2 => .array .int
  | 3 => .array .int
  | 4 => .array .int
  | 5 => .array .int
  | 6 => .int
  | _ => .boolean
theorem n_Meths : ∀ a, a < 8 → ∀ b, b < 8 → a ≠ b → (F_Meths a).2.1 ≠ (F_Meths b).2.1 := by decide +kernel
theorem t_Meths_ok : ∀ k, k < 8 → parseFieldDescriptor (F_Meths k).2.2.1 = some (t_Meths k) := by decide +kernel
abbrev R_Room : String := "ReadBarrierMachine$Room"
def F_Room : u_T := fun k => match k with
  | 0 => ("ReadBarrierMachine$Room", "limit", "I", true)
  | 1 => ("ReadBarrierMachine$Room", "pace", "I", true)
  | 2 => ("ReadBarrierMachine$Room", "cells", "[I", true)
  | 3 => ("ReadBarrierMachine$Room", "found", "[I", true)
  | 4 => ("ReadBarrierMachine$Room", "isFound", "[I", true)
  | 5 => ("ReadBarrierMachine$Room", "current", "I", false)
  | 6 => ("ReadBarrierMachine$Room", "base", "I", false)
  | 7 => ("ReadBarrierMachine$Room", "rowEnd", "I", false)
  | 8 => ("ReadBarrierMachine$Room", "scanned", "I", false)
  | 9 => ("ReadBarrierMachine$Room", "nextHead", "I", false)
  | 10 => ("ReadBarrierMachine$Room", "refsEnd", "I", false)
  | 11 => ("ReadBarrierMachine$Room", "newStart", "I", false)
  | 12 => ("ReadBarrierMachine$Room", "flipCount", "I", false)
  | 13 => ("ReadBarrierMachine$Room", "stepWork", "I", false)
  | _ => ("ReadBarrierMachine$Room", "full", "Z", false)
def t_Room : Nat → FieldType := fun k => match k with
  | 0 => .int
  | 1 => .int
  | 2 => .array .int
  | 3 => .array .int
  | 4 => .array .int
  | 5 => .int
  | 6 => .int
  | 7 => .int
  | 8 => .int
  | 9 => .int
  | 10 => .int
  | 11 => .int
  | 12 => .int
  | 13 => .int
  | _ => .boolean
theorem n_Room : ∀ a, a < 15 → ∀ b, b < 15 → a ≠ b → (F_Room a).2.1 ≠ (F_Room b).2.1 := by decide +kernel
theorem t_Room_ok : ∀ k, k < 15 → parseFieldDescriptor (F_Room k).2.2.1 = some (t_Room k) := by decide +kernel
abbrev R_Mod : String := "ReadBarrierMachineModel"
def F_Mod : u_T := fun k => match k with
  | 0 => ("ReadBarrierMachineModel", "cells", "I", false)
  | 1 => ("ReadBarrierMachineModel", "pace", "I", false)
  | 2 => ("ReadBarrierMachineModel", "kinds", "I", false)
  | 3 => ("ReadBarrierMachineModel", "kindRefs", "[I", true)
  | 4 => ("ReadBarrierMachineModel", "kindInts", "[I", true)
  | 5 => ("ReadBarrierMachineModel", "table", "[I", true)
  | 6 => ("ReadBarrierMachineModel", "methods", "I", false)
  | 7 => ("ReadBarrierMachineModel", "open", "Z", false)
  | 8 => ("ReadBarrierMachineModel", "handler", "[I", true)
  | 9 => ("ReadBarrierMachineModel", "length", "[I", true)
  | 10 => ("ReadBarrierMachineModel", "code", "[I", true)
  | 11 => ("ReadBarrierMachineModel", "age", "[I", true)
  | 12 => ("ReadBarrierMachineModel", "kindOf", "[I", true)
  | 13 => ("ReadBarrierMachineModel", "methodOf", "[I", true)
  | 14 => ("ReadBarrierMachineModel", "refs", "[I", true)
  | 15 => ("ReadBarrierMachineModel", "ints", "[I", true)
  | 16 => ("ReadBarrierMachineModel", "used", "I", false)
  | 17 => ("ReadBarrierMachineModel", "row", "[I", true)
  | 18 => ("ReadBarrierMachineModel", "rowLength", "I", false)
  | 19 => ("ReadBarrierMachineModel", "scannedObjects", "I", false)
  | 20 => ("ReadBarrierMachineModel", "scannedCells", "I", false)
  | 21 => ("ReadBarrierMachineModel", "stack", "[I", true)
  | 22 => ("ReadBarrierMachineModel", "marked", "[Z", true)
  | 23 => ("ReadBarrierMachineModel", "current", "I", false)
  | 24 => ("ReadBarrierMachineModel", "pending", "Z", false)
  | 25 => ("ReadBarrierMachineModel", "exception", "I", false)
  | 26 => ("ReadBarrierMachineModel", "state", "I", false)
  | 27 => ("ReadBarrierMachineModel", "result", "I", false)
  | 28 => ("ReadBarrierMachineModel", "flips", "I", false)
  | 29 => ("ReadBarrierMachineModel", "shows", "I", false)
  | 30 => ("ReadBarrierMachineModel", "recent", "[I", true)
  | 31 => ("ReadBarrierMachineModel", "stepWork", "I", false)
  | _ => ("ReadBarrierMachineModel", "mostWork", "I", false)
def t_Mod : Nat → FieldType := fun k => match k with
  | 0 => .int
  | 1 => .int
  | 2 => .int
  | 3 => .array .int
  | 4 => .array .int
  | 5 => .array .int
  | 6 => .int
  | 7 => .boolean
  | 8 => .array .int
  | 9 => .array .int
  | 10 => .array .int
  | 11 => .array .int
  | 12 => .array .int
  | 13 => .array .int
  | 14 => .array .int
  | 15 => .array .int
  | 16 => .int
  | 17 => .array .int
  | 18 => .int
  | 19 => .int
  | 20 => .int
  | 21 => .array .int
  | 22 => .array .boolean
  | 23 => .int
  | 24 => .boolean
  | 25 => .int
  | 26 => .int
  | 27 => .int
  | 28 => .int
  | 29 => .int
  | 30 => .array .int
  | 31 => .int
  | _ => .int
theorem n_Mod : ∀ a, a < 33 → ∀ b, b < 33 → a ≠ b → (F_Mod a).2.1 ≠ (F_Mod b).2.1 := by decide +kernel
theorem t_Mod_ok : ∀ k, k < 33 → parseFieldDescriptor (F_Mod k).2.2.1 = some (t_Mod k) := by decide +kernel
abbrev R_Law : String := "ReadBarrierMachineLaw"
abbrev y_Mach_init : MethodName := { cls := "ReadBarrierMachine", name := "<init>", desc := "(II)V" }
abbrev b_Mach_init : ByteArray := prog_1_method_1_code
abbrev y_Kinds_init : MethodName := { cls := "ReadBarrierMachine$Kinds", name := "<init>", desc := "()V" }
abbrev b_Kinds_init : ByteArray := prog_2_method_1_code
abbrev y_Meths_init : MethodName := { cls := "ReadBarrierMachine$Methods", name := "<init>", desc := "()V" }
abbrev b_Meths_init : ByteArray := prog_3_method_1_code
abbrev y_Room_init : MethodName := { cls := "ReadBarrierMachine$Room", name := "<init>", desc := "(II)V" }
abbrev b_Room_init : ByteArray := prog_4_method_1_code
abbrev y_Mach_kind : MethodName := { cls := "ReadBarrierMachine", name := "kind", desc := "(III)I" }
abbrev b_Mach_kind : ByteArray := prog_1_method_2_code
abbrev y_Kinds_load : MethodName := { cls := "ReadBarrierMachine$Kinds", name := "load", desc := "(III)I" }
abbrev b_Kinds_load : ByteArray := prog_2_method_3_code
abbrev y_Kinds_has : MethodName := { cls := "ReadBarrierMachine$Kinds", name := "has", desc := "(I)Z" }
abbrev b_Kinds_has : ByteArray := prog_2_method_2_code
abbrev y_Kinds_entry : MethodName := { cls := "ReadBarrierMachine$Kinds", name := "entry", desc := "(II)I" }
abbrev b_Kinds_entry : ByteArray := prog_2_method_5_code
abbrev y_Kinds_enter : MethodName := { cls := "ReadBarrierMachine$Kinds", name := "enter", desc := "(III)V" }
abbrev b_Kinds_enter : ByteArray := prog_2_method_4_code
abbrev y_Mach_bind : MethodName := { cls := "ReadBarrierMachine", name := "bind", desc := "(III)Z" }
abbrev b_Mach_bind : ByteArray := prog_1_method_3_code
abbrev y_Meths_isFinished : MethodName := { cls := "ReadBarrierMachine$Methods", name := "isFinished", desc := "(I)Z" }
abbrev b_Meths_isFinished : ByteArray := prog_3_method_2_code
abbrev y_Mach_method : MethodName := { cls := "ReadBarrierMachine", name := "method", desc := "(I)I" }
abbrev b_Mach_method : ByteArray := prog_1_method_4_code
abbrev y_Meths_open : MethodName := { cls := "ReadBarrierMachine$Methods", name := "open", desc := "(I)I" }
abbrev b_Meths_open : ByteArray := prog_3_method_5_code
abbrev y_Mach_code : MethodName := { cls := "ReadBarrierMachine", name := "code", desc := "(IIII)I" }
abbrev b_Mach_code : ByteArray := prog_1_method_5_code
abbrev y_Meths_isOpenOneFull : MethodName := { cls := "ReadBarrierMachine$Methods", name := "isOpenOneFull", desc := "()Z" }
abbrev b_Meths_isOpenOneFull : ByteArray := prog_3_method_3_code
abbrev y_Mach_isAsSaid : MethodName := { cls := "ReadBarrierMachine", name := "isAsSaid", desc := "(IIII)Z" }
abbrev b_Mach_isAsSaid : ByteArray := prog_1_method_23_code
abbrev y_Mach_isRegister : MethodName := { cls := "ReadBarrierMachine", name := "isRegister", desc := "(I)Z" }
abbrev b_Mach_isRegister : ByteArray := prog_1_method_21_code
abbrev y_Meths_add : MethodName := { cls := "ReadBarrierMachine$Methods", name := "add", desc := "(IIII)V" }
abbrev b_Meths_add : ByteArray := prog_3_method_6_code
abbrev y_Meths_find : MethodName := { cls := "ReadBarrierMachine$Methods", name := "find", desc := "(II)I" }
abbrev b_Meths_find : ByteArray := prog_3_method_4_code
abbrev y_Mach_seal : MethodName := { cls := "ReadBarrierMachine", name := "seal", desc := "()Z" }
abbrev b_Mach_seal : ByteArray := prog_1_method_6_code
abbrev y_Meths_finish : MethodName := { cls := "ReadBarrierMachine$Methods", name := "finish", desc := "()Z" }
abbrev b_Meths_finish : ByteArray := prog_3_method_7_code
abbrev y_Meths_endsWell : MethodName := { cls := "ReadBarrierMachine$Methods", name := "endsWell", desc := "()Z" }
abbrev b_Meths_endsWell : ByteArray := prog_3_method_9_code
abbrev y_Meths_staysInside : MethodName := { cls := "ReadBarrierMachine$Methods", name := "staysInside", desc := "()Z" }
abbrev b_Meths_staysInside : ByteArray := prog_3_method_10_code
abbrev y_Mach_drop : MethodName := { cls := "ReadBarrierMachine", name := "drop", desc := "()Z" }
abbrev b_Mach_drop : ByteArray := prog_1_method_7_code
abbrev y_Meths_giveUp : MethodName := { cls := "ReadBarrierMachine$Methods", name := "giveUp", desc := "()Z" }
abbrev b_Meths_giveUp : ByteArray := prog_3_method_8_code
abbrev y_Mach_start : MethodName := { cls := "ReadBarrierMachine", name := "start", desc := "(II)Z" }
abbrev b_Mach_start : ByteArray := prog_1_method_8_code
abbrev y_Room_restart : MethodName := { cls := "ReadBarrierMachine$Room", name := "restart", desc := "(I)V" }
abbrev b_Room_restart : ByteArray := prog_4_method_7_code
abbrev y_Room_useSpace : MethodName := { cls := "ReadBarrierMachine$Room", name := "useSpace", desc := "(I)V" }
abbrev b_Room_useSpace : ByteArray := prog_4_method_23_code
abbrev y_Room_headOfFrame : MethodName := { cls := "ReadBarrierMachine$Room", name := "headOfFrame", desc := "(I)I" }
abbrev b_Room_headOfFrame : ByteArray := prog_4_method_3_code
abbrev y_Room_headOf : MethodName := { cls := "ReadBarrierMachine$Room", name := "headOf", desc := "(III)I" }
abbrev b_Room_headOf : ByteArray := prog_4_method_2_code
abbrev y_Room_make : MethodName := { cls := "ReadBarrierMachine$Room", name := "make", desc := "(I)I" }
abbrev b_Room_make : ByteArray := prog_4_method_18_code
abbrev y_Room_sizeIn : MethodName := { cls := "ReadBarrierMachine$Room", name := "sizeIn", desc := "(I)I" }
abbrev b_Room_sizeIn : ByteArray := prog_4_method_6_code
abbrev y_Room_scanCells : MethodName := { cls := "ReadBarrierMachine$Room", name := "scanCells", desc := "(I)V" }
abbrev b_Room_scanCells : ByteArray := prog_4_method_24_code
abbrev y_Room_refsIn : MethodName := { cls := "ReadBarrierMachine$Room", name := "refsIn", desc := "(I)I" }
abbrev b_Room_refsIn : ByteArray := prog_4_method_5_code
abbrev y_Room_bring : MethodName := { cls := "ReadBarrierMachine$Room", name := "bring", desc := "(I)I" }
abbrev b_Room_bring : ByteArray := prog_4_method_26_code
abbrev y_Room_movedTo : MethodName := { cls := "ReadBarrierMachine$Room", name := "movedTo", desc := "(I)I" }
abbrev b_Room_movedTo : ByteArray := prog_4_method_27_code
abbrev y_Room_moveOld : MethodName := { cls := "ReadBarrierMachine$Room", name := "moveOld", desc := "(I)I" }
abbrev b_Room_moveOld : ByteArray := prog_4_method_28_code
abbrev y_Room_freeCells : MethodName := { cls := "ReadBarrierMachine$Room", name := "freeCells", desc := "()I" }
abbrev b_Room_freeCells : ByteArray := prog_4_method_22_code
abbrev y_Room_flip : MethodName := { cls := "ReadBarrierMachine$Room", name := "flip", desc := "()V" }
abbrev b_Room_flip : ByteArray := prog_4_method_25_code
abbrev y_Room_setInt : MethodName := { cls := "ReadBarrierMachine$Room", name := "setInt", desc := "(III)V" }
abbrev b_Room_setInt : ByteArray := prog_4_method_14_code
abbrev y_Room_refsOf : MethodName := { cls := "ReadBarrierMachine$Room", name := "refsOf", desc := "(I)I" }
abbrev b_Room_refsOf : ByteArray := prog_4_method_11_code
abbrev y_Mach_run : MethodName := { cls := "ReadBarrierMachine", name := "run", desc := "(I)I" }
abbrev b_Mach_run : ByteArray := prog_1_method_9_code
abbrev y_Mach_passException : MethodName := { cls := "ReadBarrierMachine", name := "passException", desc := "()V" }
abbrev b_Mach_passException : ByteArray := prog_1_method_24_code
abbrev y_Mach_methodOfCurrent : MethodName := { cls := "ReadBarrierMachine", name := "methodOfCurrent", desc := "()I" }
abbrev b_Mach_methodOfCurrent : ByteArray := prog_1_method_43_code
abbrev y_Room_idOf : MethodName := { cls := "ReadBarrierMachine$Room", name := "idOf", desc := "(I)I" }
abbrev b_Room_idOf : ByteArray := prog_4_method_10_code
abbrev y_Room_methodOfFrame : MethodName := { cls := "ReadBarrierMachine$Room", name := "methodOfFrame", desc := "(I)I" }
abbrev b_Room_methodOfFrame : ByteArray := prog_4_method_4_code
abbrev y_Mach_setPlace : MethodName := { cls := "ReadBarrierMachine", name := "setPlace", desc := "(I)V" }
abbrev b_Mach_setPlace : ByteArray := prog_1_method_46_code
abbrev y_Mach_setNumber : MethodName := { cls := "ReadBarrierMachine", name := "setNumber", desc := "(II)V" }
abbrev b_Mach_setNumber : ByteArray := prog_1_method_45_code
abbrev y_Room_readRef : MethodName := { cls := "ReadBarrierMachine$Room", name := "readRef", desc := "(II)I" }
abbrev b_Room_readRef : ByteArray := prog_4_method_16_code
abbrev y_Mach_perform : MethodName := { cls := "ReadBarrierMachine", name := "perform", desc := "()V" }
abbrev b_Mach_perform : ByteArray := prog_1_method_25_code
abbrev y_Room_intOf : MethodName := { cls := "ReadBarrierMachine$Room", name := "intOf", desc := "(II)I" }
abbrev b_Room_intOf : ByteArray := prog_4_method_13_code
abbrev y_Mach_numberIn : MethodName := { cls := "ReadBarrierMachine", name := "numberIn", desc := "(I)I" }
abbrev b_Mach_numberIn : ByteArray := prog_1_method_44_code
abbrev y_Mach_doNew : MethodName := { cls := "ReadBarrierMachine", name := "doNew", desc := "(II)V" }
abbrev b_Mach_doNew : ByteArray := prog_1_method_26_code
abbrev y_Kinds_headOf : MethodName := { cls := "ReadBarrierMachine$Kinds", name := "headOf", desc := "(I)I" }
abbrev b_Kinds_headOf : ByteArray := prog_2_method_6_code
abbrev y_Room_setRef : MethodName := { cls := "ReadBarrierMachine$Room", name := "setRef", desc := "(III)V" }
abbrev b_Room_setRef : ByteArray := prog_4_method_15_code
abbrev y_Mach_doCopy : MethodName := { cls := "ReadBarrierMachine", name := "doCopy", desc := "(II)V" }
abbrev b_Mach_doCopy : ByteArray := prog_1_method_27_code
abbrev y_Mach_doGet : MethodName := { cls := "ReadBarrierMachine", name := "doGet", desc := "(III)V" }
abbrev b_Mach_doGet : ByteArray := prog_1_method_28_code
abbrev y_Mach_hasRef : MethodName := { cls := "ReadBarrierMachine", name := "hasRef", desc := "(II)Z" }
abbrev b_Mach_hasRef : ByteArray := prog_1_method_40_code
abbrev y_Mach_isThere : MethodName := { cls := "ReadBarrierMachine", name := "isThere", desc := "(I)Z" }
abbrev b_Mach_isThere : ByteArray := prog_1_method_39_code
abbrev y_Mach_raise : MethodName := { cls := "ReadBarrierMachine", name := "raise", desc := "(I)V" }
abbrev b_Mach_raise : ByteArray := prog_1_method_38_code
abbrev y_Mach_hasPart : MethodName := { cls := "ReadBarrierMachine", name := "hasPart", desc := "(II)Z" }
abbrev b_Mach_hasPart : ByteArray := prog_1_method_42_code
abbrev y_Mach_doPut : MethodName := { cls := "ReadBarrierMachine", name := "doPut", desc := "(III)V" }
abbrev b_Mach_doPut : ByteArray := prog_1_method_29_code
abbrev y_Mach_doLoad : MethodName := { cls := "ReadBarrierMachine", name := "doLoad", desc := "(III)V" }
abbrev b_Mach_doLoad : ByteArray := prog_1_method_30_code
abbrev y_Mach_hasInt : MethodName := { cls := "ReadBarrierMachine", name := "hasInt", desc := "(II)Z" }
abbrev b_Mach_hasInt : ByteArray := prog_1_method_41_code
abbrev y_Room_intsOf : MethodName := { cls := "ReadBarrierMachine$Room", name := "intsOf", desc := "(I)I" }
abbrev b_Room_intsOf : ByteArray := prog_4_method_12_code
abbrev y_Mach_doStore : MethodName := { cls := "ReadBarrierMachine", name := "doStore", desc := "(III)V" }
abbrev b_Mach_doStore : ByteArray := prog_1_method_31_code
abbrev y_Mach_doZero : MethodName := { cls := "ReadBarrierMachine", name := "doZero", desc := "(II)V" }
abbrev b_Mach_doZero : ByteArray := prog_1_method_32_code
abbrev y_Mach_doVoid : MethodName := { cls := "ReadBarrierMachine", name := "doVoid", desc := "(II)V" }
abbrev b_Mach_doVoid : ByteArray := prog_1_method_33_code
abbrev y_Mach_doCall : MethodName := { cls := "ReadBarrierMachine", name := "doCall", desc := "(III)V" }
abbrev b_Mach_doCall : ByteArray := prog_1_method_34_code
abbrev y_Mach_enterFrame : MethodName := { cls := "ReadBarrierMachine", name := "enterFrame", desc := "(III)V" }
abbrev b_Mach_enterFrame : ByteArray := prog_1_method_35_code
abbrev y_Mach_doReturn : MethodName := { cls := "ReadBarrierMachine", name := "doReturn", desc := "(II)V" }
abbrev b_Mach_doReturn : ByteArray := prog_1_method_36_code
abbrev y_Mach_doShow : MethodName := { cls := "ReadBarrierMachine", name := "doShow", desc := "(I)V" }
abbrev b_Mach_doShow : ByteArray := prog_1_method_37_code
abbrev y_Mach_slotOfShown : MethodName := { cls := "ReadBarrierMachine", name := "slotOfShown", desc := "(I)I" }
abbrev b_Mach_slotOfShown : ByteArray := prog_1_method_22_code
abbrev y_Mach_state : MethodName := { cls := "ReadBarrierMachine", name := "state", desc := "()I" }
abbrev b_Mach_state : ByteArray := prog_1_method_10_code
abbrev y_Mach_result : MethodName := { cls := "ReadBarrierMachine", name := "result", desc := "()I" }
abbrev b_Mach_result : ByteArray := prog_1_method_11_code
abbrev y_Mach_shown : MethodName := { cls := "ReadBarrierMachine", name := "shown", desc := "(I)I" }
abbrev b_Mach_shown : ByteArray := prog_1_method_12_code
abbrev y_Mach_work : MethodName := { cls := "ReadBarrierMachine", name := "work", desc := "()I" }
abbrev b_Mach_work : ByteArray := prog_1_method_13_code
abbrev y_Mach_used : MethodName := { cls := "ReadBarrierMachine", name := "used", desc := "()I" }
abbrev b_Mach_used : ByteArray := prog_1_method_14_code
abbrev y_Room_usedCells : MethodName := { cls := "ReadBarrierMachine$Room", name := "usedCells", desc := "()I" }
abbrev b_Room_usedCells : ByteArray := prog_4_method_8_code
abbrev y_Mach_grey : MethodName := { cls := "ReadBarrierMachine", name := "grey", desc := "()I" }
abbrev b_Mach_grey : ByteArray := prog_1_method_15_code
abbrev y_Room_cellsToScan : MethodName := { cls := "ReadBarrierMachine$Room", name := "cellsToScan", desc := "()I" }
abbrev b_Room_cellsToScan : ByteArray := prog_4_method_9_code
abbrev y_Mach_flips : MethodName := { cls := "ReadBarrierMachine", name := "flips", desc := "()I" }
abbrev b_Mach_flips : ByteArray := prog_1_method_16_code
abbrev y_Mach_depth : MethodName := { cls := "ReadBarrierMachine", name := "depth", desc := "()I" }
abbrev b_Mach_depth : ByteArray := prog_1_method_17_code
abbrev y_Room_countFrames : MethodName := { cls := "ReadBarrierMachine$Room", name := "countFrames", desc := "()I" }
abbrev b_Room_countFrames : ByteArray := prog_4_method_19_code
abbrev y_Room_peekRef : MethodName := { cls := "ReadBarrierMachine$Room", name := "peekRef", desc := "(II)I" }
abbrev b_Room_peekRef : ByteArray := prog_4_method_17_code
abbrev y_Mach_live : MethodName := { cls := "ReadBarrierMachine", name := "live", desc := "()I" }
abbrev b_Mach_live : ByteArray := prog_1_method_18_code
abbrev y_Room_countReachableCells : MethodName := { cls := "ReadBarrierMachine$Room", name := "countReachableCells", desc := "()I" }
abbrev b_Room_countReachableCells : ByteArray := prog_4_method_20_code
abbrev y_Room_noteFound : MethodName := { cls := "ReadBarrierMachine$Room", name := "noteFound", desc := "(II)I" }
abbrev b_Room_noteFound : ByteArray := prog_4_method_21_code
abbrev y_Mach_kindAt : MethodName := { cls := "ReadBarrierMachine", name := "kindAt", desc := "(II)I" }
abbrev b_Mach_kindAt : ByteArray := prog_1_method_19_code
abbrev y_Mach_number : MethodName := { cls := "ReadBarrierMachine", name := "number", desc := "(I)I" }
abbrev b_Mach_number : ByteArray := prog_1_method_20_code
abbrev y_Law_cell : MethodName := { cls := "ReadBarrierMachineLaw", name := "cell", desc := "([II)I" }
abbrev b_Law_cell : ByteArray := method_2_code
abbrev y_Mod_init : MethodName := { cls := "ReadBarrierMachineModel", name := "<init>", desc := "(II)V" }
abbrev b_Mod_init : ByteArray := prog_6_method_1_code
abbrev y_Mod_kind : MethodName := { cls := "ReadBarrierMachineModel", name := "kind", desc := "(III)I" }
abbrev b_Mod_kind : ByteArray := prog_6_method_3_code
abbrev y_Mod_below : MethodName := { cls := "ReadBarrierMachineModel", name := "below", desc := "(II)Z" }
abbrev b_Mod_below : ByteArray := prog_6_method_2_code
abbrev y_Mod_bind : MethodName := { cls := "ReadBarrierMachineModel", name := "bind", desc := "(III)Z" }
abbrev b_Mod_bind : ByteArray := prog_6_method_5_code
abbrev y_Mod_finished : MethodName := { cls := "ReadBarrierMachineModel", name := "finished", desc := "(I)Z" }
abbrev b_Mod_finished : ByteArray := prog_6_method_4_code
abbrev y_Mod_method : MethodName := { cls := "ReadBarrierMachineModel", name := "method", desc := "(I)I" }
abbrev b_Mod_method : ByteArray := prog_6_method_6_code
abbrev y_Mod_code : MethodName := { cls := "ReadBarrierMachineModel", name := "code", desc := "(IIII)I" }
abbrev b_Mod_code : ByteArray := prog_6_method_8_code
abbrev y_Mod_fits : MethodName := { cls := "ReadBarrierMachineModel", name := "fits", desc := "(IIII)Z" }
abbrev b_Mod_fits : ByteArray := prog_6_method_7_code
abbrev y_Mod_seal : MethodName := { cls := "ReadBarrierMachineModel", name := "seal", desc := "()Z" }
abbrev b_Mod_seal : ByteArray := prog_6_method_9_code
abbrev y_Mod_drop : MethodName := { cls := "ReadBarrierMachineModel", name := "drop", desc := "()Z" }
abbrev b_Mod_drop : ByteArray := prog_6_method_10_code
abbrev y_Mod_start : MethodName := { cls := "ReadBarrierMachineModel", name := "start", desc := "(II)Z" }
abbrev b_Mod_start : ByteArray := prog_6_method_20_code
abbrev y_Mod_create : MethodName := { cls := "ReadBarrierMachineModel", name := "create", desc := "(II)I" }
abbrev b_Mod_create : ByteArray := prog_6_method_13_code
abbrev y_Mod_size : MethodName := { cls := "ReadBarrierMachineModel", name := "size", desc := "(I)I" }
abbrev b_Mod_size : ByteArray := prog_6_method_12_code
abbrev y_Mod_run : MethodName := { cls := "ReadBarrierMachineModel", name := "run", desc := "(I)I" }
abbrev b_Mod_run : ByteArray := prog_6_method_21_code
abbrev y_Mod_step : MethodName := { cls := "ReadBarrierMachineModel", name := "step", desc := "()V" }
abbrev b_Mod_step : ByteArray := prog_6_method_23_code
abbrev y_Mod_unwind : MethodName := { cls := "ReadBarrierMachineModel", name := "unwind", desc := "()V" }
abbrev b_Mod_unwind : ByteArray := prog_6_method_24_code
abbrev y_Mod_read : MethodName := { cls := "ReadBarrierMachineModel", name := "read", desc := "(I)Z" }
abbrev b_Mod_read : ByteArray := prog_6_method_15_code
abbrev y_Mod_move : MethodName := { cls := "ReadBarrierMachineModel", name := "move", desc := "(I)V" }
abbrev b_Mod_move : ByteArray := prog_6_method_14_code
abbrev y_Mod_access : MethodName := { cls := "ReadBarrierMachineModel", name := "access", desc := "(IIII)V" }
abbrev b_Mod_access : ByteArray := prog_6_method_27_code
abbrev y_Mod_raise : MethodName := { cls := "ReadBarrierMachineModel", name := "raise", desc := "(I)V" }
abbrev b_Mod_raise : ByteArray := prog_6_method_22_code
abbrev y_Mod_call : MethodName := { cls := "ReadBarrierMachineModel", name := "call", desc := "(III)V" }
abbrev b_Mod_call : ByteArray := prog_6_method_28_code
abbrev y_Mod_make : MethodName := { cls := "ReadBarrierMachineModel", name := "make", desc := "(II)I" }
abbrev b_Mod_make : ByteArray := prog_6_method_19_code
abbrev y_Mod_rowDone : MethodName := { cls := "ReadBarrierMachineModel", name := "rowDone", desc := "()Z" }
abbrev b_Mod_rowDone : ByteArray := prog_6_method_16_code
abbrev y_Mod_scanCell : MethodName := { cls := "ReadBarrierMachineModel", name := "scanCell", desc := "()V" }
abbrev b_Mod_scanCell : ByteArray := prog_6_method_17_code
abbrev y_Mod_manyRefs : MethodName := { cls := "ReadBarrierMachineModel", name := "manyRefs", desc := "(I)I" }
abbrev b_Mod_manyRefs : ByteArray := prog_6_method_11_code
abbrev y_Mod_flip : MethodName := { cls := "ReadBarrierMachineModel", name := "flip", desc := "()V" }
abbrev b_Mod_flip : ByteArray := prog_6_method_18_code
abbrev y_Mod_leave : MethodName := { cls := "ReadBarrierMachineModel", name := "leave", desc := "(II)V" }
abbrev b_Mod_leave : ByteArray := prog_6_method_29_code
abbrev y_Mod_plain : MethodName := { cls := "ReadBarrierMachineModel", name := "plain", desc := "(IIII)V" }
abbrev b_Mod_plain : ByteArray := prog_6_method_25_code
abbrev y_Mod_show : MethodName := { cls := "ReadBarrierMachineModel", name := "show", desc := "(I)V" }
abbrev b_Mod_show : ByteArray := prog_6_method_26_code
abbrev y_Mod_state : MethodName := { cls := "ReadBarrierMachineModel", name := "state", desc := "()I" }
abbrev b_Mod_state : ByteArray := prog_6_method_30_code
abbrev y_Mod_result : MethodName := { cls := "ReadBarrierMachineModel", name := "result", desc := "()I" }
abbrev b_Mod_result : ByteArray := prog_6_method_31_code
abbrev y_Mod_shown : MethodName := { cls := "ReadBarrierMachineModel", name := "shown", desc := "(I)I" }
abbrev b_Mod_shown : ByteArray := prog_6_method_32_code
abbrev y_Mod_work : MethodName := { cls := "ReadBarrierMachineModel", name := "work", desc := "()I" }
abbrev b_Mod_work : ByteArray := prog_6_method_33_code
abbrev y_Mod_used : MethodName := { cls := "ReadBarrierMachineModel", name := "used", desc := "()I" }
abbrev b_Mod_used : ByteArray := prog_6_method_34_code
abbrev y_Mod_grey : MethodName := { cls := "ReadBarrierMachineModel", name := "grey", desc := "()I" }
abbrev b_Mod_grey : ByteArray := prog_6_method_35_code
abbrev y_Mod_flips : MethodName := { cls := "ReadBarrierMachineModel", name := "flips", desc := "()I" }
abbrev b_Mod_flips : ByteArray := prog_6_method_36_code
abbrev y_Mod_depth : MethodName := { cls := "ReadBarrierMachineModel", name := "depth", desc := "()I" }
abbrev b_Mod_depth : ByteArray := prog_6_method_37_code
abbrev y_Mod_live : MethodName := { cls := "ReadBarrierMachineModel", name := "live", desc := "()I" }
abbrev b_Mod_live : ByteArray := prog_6_method_38_code
abbrev y_Mod_kindAt : MethodName := { cls := "ReadBarrierMachineModel", name := "kindAt", desc := "(II)I" }
abbrev b_Mod_kindAt : ByteArray := prog_6_method_39_code
abbrev y_Mod_number : MethodName := { cls := "ReadBarrierMachineModel", name := "number", desc := "(I)I" }
abbrev b_Mod_number : ByteArray := prog_6_method_40_code
abbrev clA : List vw_C := [(R_Mach, F_Mach, 10), (R_Kinds, F_Kinds, 4), (R_Meths, F_Meths, 8), (R_Room, F_Room, 15), (R_Mod, F_Mod, 33)]
