theorem tm_13 : (Jvm.Cond.methodLink "ReadBarrierMachine" (1 : Nat) ({ cls := "java/lang/Object", name := "<init>", desc := "()V" } : Jvm.MethodName)) ∈ wsG := rb_tin (List.mem_of_getElem? (i := 13) (by decide +kernel)) rfl
theorem tm_14 : (Jvm.Cond.instanceMethod ({ cls := "java/lang/Object", name := "<init>", desc := "()V" } : Jvm.MethodName)) ∈ wsG := rb_tin (List.mem_of_getElem? (i := 14) (by decide +kernel)) rfl
set_option maxRecDepth 100000 in
theorem tm_15 : (Jvm.Cond.code ({ cls := "java/lang/Object", name := "<init>", desc := "()V" } : Jvm.MethodName) object_method_1_code (1 : Nat) (Option.none : Option Jvm.ClassFile.FieldType)) ∈ wsG := rb_tin (List.mem_of_getElem? (i := 15) rfl) rfl
theorem tm_16 : (Jvm.Cond.classLink "ReadBarrierMachine" (7 : Nat) "ReadBarrierMachine$Kinds") ∈ wsG := rb_tin (List.mem_of_getElem? (i := 16) (by decide +kernel)) rfl
theorem tm_17 : (Jvm.Cond.instantiable "ReadBarrierMachine$Kinds" (4 : Nat)) ∈ wsG := rb_tin (List.mem_of_getElem? (i := 17) (by decide +kernel)) rfl
theorem tm_19 : (Jvm.Cond.instanceMethod ({ cls := "ReadBarrierMachine$Kinds", name := "<init>", desc := "()V" } : Jvm.MethodName)) ∈ wsG := rb_tin (List.mem_of_getElem? (i := 19) (by decide +kernel)) rfl
set_option maxRecDepth 100000 in
theorem tm_20 : (Jvm.Cond.code ({ cls := "ReadBarrierMachine$Kinds", name := "<init>", desc := "()V" } : Jvm.MethodName) prog_2_method_1_code (1 : Nat) (Option.none : Option Jvm.ClassFile.FieldType)) ∈ wsG := rb_tin (List.mem_of_getElem? (i := 20) rfl) rfl
theorem tm_21 : (Jvm.Cond.methodLink "ReadBarrierMachine$Kinds" (3 : Nat) ({ cls := "java/lang/Object", name := "<init>", desc := "()V" } : Jvm.MethodName)) ∈ wsG := rb_tin (List.mem_of_getElem? (i := 21) (by decide +kernel)) rfl
theorem tm_35 : (Jvm.Cond.arrayClass Jvm.ClassFile.FieldType.int) ∈ wsG := rb_tin (List.mem_of_getElem? (i := 35) (by decide +kernel)) rfl
theorem tm_36 : (Jvm.Cond.classLink "ReadBarrierMachine" (16 : Nat) "ReadBarrierMachine$Methods") ∈ wsG := rb_tin (List.mem_of_getElem? (i := 36) (by decide +kernel)) rfl
theorem tm_37 : (Jvm.Cond.instantiable "ReadBarrierMachine$Methods" (8 : Nat)) ∈ wsG := rb_tin (List.mem_of_getElem? (i := 37) (by decide +kernel)) rfl
theorem tm_39 : (Jvm.Cond.instanceMethod ({ cls := "ReadBarrierMachine$Methods", name := "<init>", desc := "()V" } : Jvm.MethodName)) ∈ wsG := rb_tin (List.mem_of_getElem? (i := 39) (by decide +kernel)) rfl
set_option maxRecDepth 100000 in
theorem tm_40 : (Jvm.Cond.code ({ cls := "ReadBarrierMachine$Methods", name := "<init>", desc := "()V" } : Jvm.MethodName) prog_3_method_1_code (1 : Nat) (Option.none : Option Jvm.ClassFile.FieldType)) ∈ wsG := rb_tin (List.mem_of_getElem? (i := 40) rfl) rfl
theorem tm_41 : (Jvm.Cond.methodLink "ReadBarrierMachine$Methods" (3 : Nat) ({ cls := "java/lang/Object", name := "<init>", desc := "()V" } : Jvm.MethodName)) ∈ wsG := rb_tin (List.mem_of_getElem? (i := 41) (by decide +kernel)) rfl
theorem tm_73 : (Jvm.Cond.classLink "ReadBarrierMachine" (23 : Nat) "ReadBarrierMachine$Room") ∈ wsG := rb_tin (List.mem_of_getElem? (i := 73) (by decide +kernel)) rfl
theorem tm_74 : (Jvm.Cond.instantiable "ReadBarrierMachine$Room" (15 : Nat)) ∈ wsG := rb_tin (List.mem_of_getElem? (i := 74) (by decide +kernel)) rfl
theorem tm_75 : (Jvm.Cond.methodLink "ReadBarrierMachine" (25 : Nat) ({ cls := "java/lang/Math", name := "min", desc := "(II)I" } : Jvm.MethodName)) ∈ wsG := rb_tin (List.mem_of_getElem? (i := 75) (by decide +kernel)) rfl
theorem tm_76 : (Jvm.Cond.static ({ cls := "java/lang/Math", name := "min", desc := "(II)I" } : Jvm.MethodName)) ∈ wsG := rb_tin (List.mem_of_getElem? (i := 76) (by decide +kernel)) rfl
set_option maxRecDepth 100000 in
theorem tm_77 : (Jvm.Cond.code ({ cls := "java/lang/Math", name := "min", desc := "(II)I" } : Jvm.MethodName) prog_7_method_69_code (2 : Nat) (Option.some Jvm.ClassFile.FieldType.int)) ∈ wsG := rb_tin (List.mem_of_getElem? (i := 77) rfl) rfl
theorem tm_81 : (Jvm.Cond.methodLink "ReadBarrierMachine" (34 : Nat) ({ cls := "ReadBarrierMachine$Room", name := "<init>", desc := "(II)V" } : Jvm.MethodName)) ∈ wsG := rb_tin (List.mem_of_getElem? (i := 81) (by decide +kernel)) rfl
theorem tm_82 : (Jvm.Cond.instanceMethod ({ cls := "ReadBarrierMachine$Room", name := "<init>", desc := "(II)V" } : Jvm.MethodName)) ∈ wsG := rb_tin (List.mem_of_getElem? (i := 82) (by decide +kernel)) rfl
set_option maxRecDepth 100000 in
theorem tm_83 : (Jvm.Cond.code ({ cls := "ReadBarrierMachine$Room", name := "<init>", desc := "(II)V" } : Jvm.MethodName) prog_4_method_1_code (3 : Nat) (Option.none : Option Jvm.ClassFile.FieldType)) ∈ wsG := rb_tin (List.mem_of_getElem? (i := 83) rfl) rfl
theorem tm_84 : (Jvm.Cond.methodLink "ReadBarrierMachine$Room" (3 : Nat) ({ cls := "java/lang/Object", name := "<init>", desc := "()V" } : Jvm.MethodName)) ∈ wsG := rb_tin (List.mem_of_getElem? (i := 84) (by decide +kernel)) rfl
theorem tm_529 : (Jvm.Cond.methodLink "ReadBarrierMachineModel" (1 : Nat) ({ cls := "java/lang/Object", name := "<init>", desc := "()V" } : Jvm.MethodName)) ∈ wsG := rb_tin (List.mem_of_getElem? (i := 529) (by decide +kernel)) rfl
theorem tm_630 : (Jvm.Cond.arrayClass Jvm.ClassFile.FieldType.boolean) ∈ wsG := rb_tin (List.mem_of_getElem? (i := 630) (by decide +kernel)) rfl
theorem df_Mach : ∀ j, j < 10 → defaultValue (t_Mach j) = vp_V [.null, .null, .null, .null, .int 0, .int 0, .int 0, .int 0, .int 0, .int 0] j := fun j hj => match j, hj with
  | 0, _ => rfl
  | 1, _ => rfl
  | 2, _ => rfl
  | 3, _ => rfl
  | 4, _ => rfl
  | 5, _ => rfl
  | 6, _ => rfl
  | 7, _ => rfl
  | 8, _ => rfl
  | 9, _ => rfl
  | j + 10, h => absurd h (by omega)
theorem df_Kinds : ∀ j, j < 4 → defaultValue (t_Kinds j) = vp_V [.null, .null, .null, .int 0] j := fun j hj => match j, hj with
  | 0, _ => rfl
  | 1, _ => rfl
  | 2, _ => rfl
  | 3, _ => rfl
  | j + 4, h => absurd h (by omega)
theorem df_Meths : ∀ j, j < 8 → defaultValue (t_Meths j) = vp_V [.null, .null, .null, .null, .null, .null, .int 0, .int 0] j := fun j hj => match j, hj with
  | 0, _ => rfl
  | 1, _ => rfl
  | 2, _ => rfl
  | 3, _ => rfl
  | 4, _ => rfl
  | 5, _ => rfl
  | 6, _ => rfl
  | 7, _ => rfl
  | j + 8, h => absurd h (by omega)
theorem df_Room : ∀ j, j < 15 → defaultValue (t_Room j) = vp_V [.int 0, .int 0, .null, .null, .null, .int 0, .int 0, .int 0, .int 0, .int 0, .int 0, .int 0, .int 0, .int 0, .int 0] j := fun j hj => match j, hj with
  | 0, _ => rfl
  | 1, _ => rfl
  | 2, _ => rfl
  | 3, _ => rfl
  | 4, _ => rfl
  | 5, _ => rfl
  | 6, _ => rfl
  | 7, _ => rfl
  | 8, _ => rfl
  | 9, _ => rfl
  | 10, _ => rfl
  | 11, _ => rfl
  | 12, _ => rfl
  | 13, _ => rfl
  | 14, _ => rfl
  | j + 15, h => absurd h (by omega)
theorem df_Mod : ∀ j, j < 33 → defaultValue (t_Mod j) = vp_V [.int 0, .int 0, .int 0, .null, .null, .null, .int 0, .int 0, .null, .null, .null, .null, .null, .null, .null, .null, .int 0, .null, .int 0, .int 0, .int 0, .null, .null, .int 0, .int 0, .int 0, .int 0, .int 0, .int 0, .int 0, .null, .int 0, .int 0] j := fun j hj => match j, hj with
  | 0, _ => rfl
  | 1, _ => rfl
  | 2, _ => rfl
  | 3, _ => rfl
  | 4, _ => rfl
  | 5, _ => rfl
  | 6, _ => rfl
  | 7, _ => rfl
  | 8, _ => rfl
  | 9, _ => rfl
  | 10, _ => rfl
  | 11, _ => rfl
  | 12, _ => rfl
  | 13, _ => rfl
  | 14, _ => rfl
  | 15, _ => rfl
  | 16, _ => rfl
  | 17, _ => rfl
  | 18, _ => rfl
  | 19, _ => rfl
  | 20, _ => rfl
  | 21, _ => rfl
  | 22, _ => rfl
  | 23, _ => rfl
  | 24, _ => rfl
  | 25, _ => rfl
  | 26, _ => rfl
  | 27, _ => rfl
  | 28, _ => rfl
  | 29, _ => rfl
  | 30, _ => rfl
  | 31, _ => rfl
  | 32, _ => rfl
  | j + 33, h => absurd h (by omega)
abbrev rm_Kinds_init : Room := { frames := 1, cells := 3, slots := 24, locals := 13 }
theorem d_Kinds_init_0 : decode b_Kinds_init 0 = .ok (.aload_n 0, 1) := by decide +kernel
theorem d_Kinds_init_1 : decode b_Kinds_init 1 = .ok (.invokespecial 3, 3) := by decide +kernel
theorem d_Kinds_init_4 : decode b_Kinds_init 4 = .ok (.aload_n 0, 1) := by decide +kernel
theorem d_Kinds_init_5 : decode b_Kinds_init 5 = .ok (.iconst 4, 1) := by decide +kernel
theorem d_Kinds_init_6 : decode b_Kinds_init 6 = .ok (.newarray .int, 2) := by decide +kernel
theorem d_Kinds_init_8 : decode b_Kinds_init 8 = .ok (.putfield 9, 3) := by decide +kernel
theorem d_Kinds_init_11 : decode b_Kinds_init 11 = .ok (.aload_n 0, 1) := by decide +kernel
theorem d_Kinds_init_12 : decode b_Kinds_init 12 = .ok (.iconst 4, 1) := by decide +kernel
theorem d_Kinds_init_13 : decode b_Kinds_init 13 = .ok (.newarray .int, 2) := by decide +kernel
theorem d_Kinds_init_15 : decode b_Kinds_init 15 = .ok (.putfield 15, 3) := by decide +kernel
theorem d_Kinds_init_18 : decode b_Kinds_init 18 = .ok (.aload_n 0, 1) := by decide +kernel
theorem d_Kinds_init_19 : decode b_Kinds_init 19 = .ok (.bipush 16, 2) := by decide +kernel
theorem d_Kinds_init_21 : decode b_Kinds_init 21 = .ok (.newarray .int, 2) := by decide +kernel
theorem d_Kinds_init_23 : decode b_Kinds_init 23 = .ok (.putfield 18, 3) := by decide +kernel
theorem d_Kinds_init_26 : decode b_Kinds_init 26 = .ok (.return_, 1) := by decide +kernel
set_option maxHeartbeats 4000000 in
set_option maxRecDepth 100000 in
theorem c_Kinds_init {l : Launch} {dC : Nat → ClassId} {dI : Nat → Nat → Nat} {cI cZ : ClassId} {tt : Nat → Nat} {h : Nat} : CN l (dC, dI) clA (tyM cI cZ) (SXx tt) [(h, .inr (1, [.null, .null, .null, .int 0]))] (fun u => ∃ q1 q2 q3 : Nat, u = [(h, .inr (1, [.ref q1, .ref q2, .ref q3, .int 0])), (q1, .inl (cI, 4, .inl fun _ => 0)), (q2, .inl (cI, 4, .inl fun _ => 0)), (q3, .inl (cI, 16, .inl fun _ => 0))]) y_Kinds_init b_Kinds_init 1 rm_Kinds_init [.ref h] 3 24 := by
  refine CN_of (by decide) rfl (Nat.le_of_ble_eq_true rfl) ?_
  intro pr e s m below meth c A ls C hr hnm hl hI
  have hx := C.1
  have hb := C.2.1
  have hl : lv_has ls 1 [(0, .ref h)] := hl
  refine lv_aload_n hx hb d_Kinds_init_0 rfl (lv_at hl 0 rfl) ?_
  refine rb_oinit C tm_21 tm_14 tm_15 hl.1 d_Kinds_init_1 (Nat.le_of_ble_eq_true rfl) (Nat.le_of_ble_eq_true rfl) ?_
  refine lv_aload_n hx hb d_Kinds_init_4 rfl (lv_at hl 0 rfl) ?_
  refine lv_iconst (v := 4) hx hb d_Kinds_init_5 (by decide) ?_
  refine rb_newI C hI tm_35 0 (cA := cI) rfl (N := 4) (by decide) rfl (by decide) (Nat.le_of_ble_eq_true rfl) (by show 0 + 4 ≤ 24; omega) d_Kinds_init_6 (fun q1 H hI => ?_)
  have hI : Wi (dC, dI) clA [(h, .inr (1, [.null, .null, .null, .int 0])), (q1, .inl (cI, 4, .inl fun _ => 0))] s A H _ := hI
  refine rb_pF C hI (ty := .array .int) (w' := [(h, .inr (1, [.ref q1, .null, .null, .int 0])), (q1, .inl (cI, 4, .inl fun _ => 0))]) in_Kinds t_Kinds t_Kinds_ok n_Kinds 0 rfl rfl 0 (by decide) tm_22 rfl hnm rfl (by decide +kernel) rfl rfl (Nat.le_of_ble_eq_true rfl) d_Kinds_init_8 rfl (fun H locs hI => ?_)
  refine lv_aload_n hx hb d_Kinds_init_11 rfl (lv_at hl 0 rfl) ?_
  refine lv_iconst (v := 4) hx hb d_Kinds_init_12 (by decide) ?_
  refine rb_newI C hI tm_35 0 (cA := cI) rfl (N := 4) (by decide) rfl (by decide) (Nat.le_of_ble_eq_true rfl) (by show 0 + 4 + 4 ≤ 24; omega) d_Kinds_init_13 (fun q2 H hI => ?_)
  have hI : Wi (dC, dI) clA [(h, .inr (1, [.ref q1, .null, .null, .int 0])), (q1, .inl (cI, 4, .inl fun _ => 0)), (q2, .inl (cI, 4, .inl fun _ => 0))] s A H _ := hI
  refine rb_pF C hI (ty := .array .int) (w' := [(h, .inr (1, [.ref q1, .ref q2, .null, .int 0])), (q1, .inl (cI, 4, .inl fun _ => 0)), (q2, .inl (cI, 4, .inl fun _ => 0))]) in_Kinds t_Kinds t_Kinds_ok n_Kinds 0 rfl rfl 1 (by decide) tm_23 rfl hnm rfl (by decide +kernel) rfl rfl (Nat.le_of_ble_eq_true rfl) d_Kinds_init_15 rfl (fun H locs hI => ?_)
  refine lv_aload_n hx hb d_Kinds_init_18 rfl (lv_at hl 0 rfl) ?_
  refine lv_bipush (v := 16) hx hb d_Kinds_init_19 (by decide) ?_
  refine rb_newI C hI tm_35 0 (cA := cI) rfl (N := 16) (by decide) rfl (by decide) (Nat.le_of_ble_eq_true rfl) (by show 0 + 4 + 4 + 16 ≤ 24; omega) d_Kinds_init_21 (fun q3 H hI => ?_)
  have hI : Wi (dC, dI) clA [(h, .inr (1, [.ref q1, .ref q2, .null, .int 0])), (q1, .inl (cI, 4, .inl fun _ => 0)), (q2, .inl (cI, 4, .inl fun _ => 0)), (q3, .inl (cI, 16, .inl fun _ => 0))] s A H _ := hI
  refine rb_pF C hI (ty := .array .int) (w' := [(h, .inr (1, [.ref q1, .ref q2, .ref q3, .int 0])), (q1, .inl (cI, 4, .inl fun _ => 0)), (q2, .inl (cI, 4, .inl fun _ => 0)), (q3, .inl (cI, 16, .inl fun _ => 0))]) in_Kinds t_Kinds t_Kinds_ok n_Kinds 0 rfl rfl 2 (by decide) tm_24 rfl hnm rfl (by decide +kernel) rfl rfl (Nat.le_of_ble_eq_true rfl) d_Kinds_init_23 rfl (fun H locs hI => ?_)
  refine W.widen (k := 3) (n := 24) (by show 0 + 1 + 1 + 1 ≤ 3; omega) (by show 0 + 4 + 4 + 16 ≤ 24; omega) ?_
  exact rb_retN C hr hI ⟨q1, q2, q3, rfl⟩ d_Kinds_init_26
abbrev rm_Meths_init : Room := { frames := 1, cells := 6, slots := 300, locals := 13 }
theorem d_Meths_init_0 : decode b_Meths_init 0 = .ok (.aload_n 0, 1) := by decide +kernel
theorem d_Meths_init_1 : decode b_Meths_init 1 = .ok (.invokespecial 3, 3) := by decide +kernel
theorem d_Meths_init_4 : decode b_Meths_init 4 = .ok (.aload_n 0, 1) := by decide +kernel
theorem d_Meths_init_5 : decode b_Meths_init 5 = .ok (.bipush 6, 2) := by decide +kernel
theorem d_Meths_init_7 : decode b_Meths_init 7 = .ok (.newarray .int, 2) := by decide +kernel
theorem d_Meths_init_9 : decode b_Meths_init 9 = .ok (.putfield 9, 3) := by decide +kernel
theorem d_Meths_init_12 : decode b_Meths_init 12 = .ok (.aload_n 0, 1) := by decide +kernel
theorem d_Meths_init_13 : decode b_Meths_init 13 = .ok (.bipush 6, 2) := by decide +kernel
theorem d_Meths_init_15 : decode b_Meths_init 15 = .ok (.newarray .int, 2) := by decide +kernel
theorem d_Meths_init_17 : decode b_Meths_init 17 = .ok (.putfield 15, 3) := by decide +kernel
theorem d_Meths_init_20 : decode b_Meths_init 20 = .ok (.aload_n 0, 1) := by decide +kernel
theorem d_Meths_init_21 : decode b_Meths_init 21 = .ok (.bipush 72, 2) := by decide +kernel
theorem d_Meths_init_23 : decode b_Meths_init 23 = .ok (.newarray .int, 2) := by decide +kernel
theorem d_Meths_init_25 : decode b_Meths_init 25 = .ok (.putfield 18, 3) := by decide +kernel
theorem d_Meths_init_28 : decode b_Meths_init 28 = .ok (.aload_n 0, 1) := by decide +kernel
theorem d_Meths_init_29 : decode b_Meths_init 29 = .ok (.bipush 72, 2) := by decide +kernel
theorem d_Meths_init_31 : decode b_Meths_init 31 = .ok (.newarray .int, 2) := by decide +kernel
theorem d_Meths_init_33 : decode b_Meths_init 33 = .ok (.putfield 21, 3) := by decide +kernel
theorem d_Meths_init_36 : decode b_Meths_init 36 = .ok (.aload_n 0, 1) := by decide +kernel
theorem d_Meths_init_37 : decode b_Meths_init 37 = .ok (.bipush 72, 2) := by decide +kernel
theorem d_Meths_init_39 : decode b_Meths_init 39 = .ok (.newarray .int, 2) := by decide +kernel
theorem d_Meths_init_41 : decode b_Meths_init 41 = .ok (.putfield 24, 3) := by decide +kernel
theorem d_Meths_init_44 : decode b_Meths_init 44 = .ok (.aload_n 0, 1) := by decide +kernel
theorem d_Meths_init_45 : decode b_Meths_init 45 = .ok (.bipush 72, 2) := by decide +kernel
theorem d_Meths_init_47 : decode b_Meths_init 47 = .ok (.newarray .int, 2) := by decide +kernel
theorem d_Meths_init_49 : decode b_Meths_init 49 = .ok (.putfield 27, 3) := by decide +kernel
theorem d_Meths_init_52 : decode b_Meths_init 52 = .ok (.return_, 1) := by decide +kernel
set_option maxHeartbeats 4000000 in
set_option maxRecDepth 100000 in
theorem c_Meths_init {l : Launch} {dC : Nat → ClassId} {dI : Nat → Nat → Nat} {cI cZ : ClassId} {tt : Nat → Nat} {h : Nat} : CN l (dC, dI) clA (tyM cI cZ) (SXx tt) [(h, .inr (2, [.null, .null, .null, .null, .null, .null, .int 0, .int 0]))] (fun u => ∃ q1 q2 q3 q4 q5 q6 : Nat, u = [(h, .inr (2, [.ref q1, .ref q2, .ref q3, .ref q4, .ref q5, .ref q6, .int 0, .int 0])), (q1, .inl (cI, 6, .inl fun _ => 0)), (q2, .inl (cI, 6, .inl fun _ => 0)), (q3, .inl (cI, 72, .inl fun _ => 0)), (q4, .inl (cI, 72, .inl fun _ => 0)), (q5, .inl (cI, 72, .inl fun _ => 0)), (q6, .inl (cI, 72, .inl fun _ => 0))]) y_Meths_init b_Meths_init 1 rm_Meths_init [.ref h] 6 300 := by
  refine CN_of (by decide) rfl (Nat.le_of_ble_eq_true rfl) ?_
  intro pr e s m below meth c A ls C hr hnm hl hI
  have hx := C.1
  have hb := C.2.1
  have hl : lv_has ls 1 [(0, .ref h)] := hl
  refine lv_aload_n hx hb d_Meths_init_0 rfl (lv_at hl 0 rfl) ?_
  refine rb_oinit C tm_41 tm_14 tm_15 hl.1 d_Meths_init_1 (Nat.le_of_ble_eq_true rfl) (Nat.le_of_ble_eq_true rfl) ?_
  refine lv_aload_n hx hb d_Meths_init_4 rfl (lv_at hl 0 rfl) ?_
  refine lv_bipush (v := 6) hx hb d_Meths_init_5 (by decide) ?_
  refine rb_newI C hI tm_35 0 (cA := cI) rfl (N := 6) (by decide) rfl (by decide) (Nat.le_of_ble_eq_true rfl) (by show 0 + 6 ≤ 300; omega) d_Meths_init_7 (fun q1 H hI => ?_)
  have hI : Wi (dC, dI) clA [(h, .inr (2, [.null, .null, .null, .null, .null, .null, .int 0, .int 0])), (q1, .inl (cI, 6, .inl fun _ => 0))] s A H _ := hI
  refine rb_pF C hI (ty := .array .int) (w' := [(h, .inr (2, [.ref q1, .null, .null, .null, .null, .null, .int 0, .int 0])), (q1, .inl (cI, 6, .inl fun _ => 0))]) in_Meths t_Meths t_Meths_ok n_Meths 0 rfl rfl 0 (by decide) tm_42 rfl hnm rfl (by decide +kernel) rfl rfl (Nat.le_of_ble_eq_true rfl) d_Meths_init_9 rfl (fun H locs hI => ?_)
  refine lv_aload_n hx hb d_Meths_init_12 rfl (lv_at hl 0 rfl) ?_
  refine lv_bipush (v := 6) hx hb d_Meths_init_13 (by decide) ?_
  refine rb_newI C hI tm_35 0 (cA := cI) rfl (N := 6) (by decide) rfl (by decide) (Nat.le_of_ble_eq_true rfl) (by show 0 + 6 + 6 ≤ 300; omega) d_Meths_init_15 (fun q2 H hI => ?_)
  have hI : Wi (dC, dI) clA [(h, .inr (2, [.ref q1, .null, .null, .null, .null, .null, .int 0, .int 0])), (q1, .inl (cI, 6, .inl fun _ => 0)), (q2, .inl (cI, 6, .inl fun _ => 0))] s A H _ := hI
  refine rb_pF C hI (ty := .array .int) (w' := [(h, .inr (2, [.ref q1, .ref q2, .null, .null, .null, .null, .int 0, .int 0])), (q1, .inl (cI, 6, .inl fun _ => 0)), (q2, .inl (cI, 6, .inl fun _ => 0))]) in_Meths t_Meths t_Meths_ok n_Meths 0 rfl rfl 1 (by decide) tm_44 rfl hnm rfl (by decide +kernel) rfl rfl (Nat.le_of_ble_eq_true rfl) d_Meths_init_17 rfl (fun H locs hI => ?_)
  refine lv_aload_n hx hb d_Meths_init_20 rfl (lv_at hl 0 rfl) ?_
  refine lv_bipush (v := 72) hx hb d_Meths_init_21 (by decide) ?_
  refine rb_newI C hI tm_35 0 (cA := cI) rfl (N := 72) (by decide) rfl (by decide) (Nat.le_of_ble_eq_true rfl) (by show 0 + 6 + 6 + 72 ≤ 300; omega) d_Meths_init_23 (fun q3 H hI => ?_)
  have hI : Wi (dC, dI) clA [(h, .inr (2, [.ref q1, .ref q2, .null, .null, .null, .null, .int 0, .int 0])), (q1, .inl (cI, 6, .inl fun _ => 0)), (q2, .inl (cI, 6, .inl fun _ => 0)), (q3, .inl (cI, 72, .inl fun _ => 0))] s A H _ := hI
  refine rb_pF C hI (ty := .array .int) (w' := [(h, .inr (2, [.ref q1, .ref q2, .ref q3, .null, .null, .null, .int 0, .int 0])), (q1, .inl (cI, 6, .inl fun _ => 0)), (q2, .inl (cI, 6, .inl fun _ => 0)), (q3, .inl (cI, 72, .inl fun _ => 0))]) in_Meths t_Meths t_Meths_ok n_Meths 0 rfl rfl 2 (by decide) tm_45 rfl hnm rfl (by decide +kernel) rfl rfl (Nat.le_of_ble_eq_true rfl) d_Meths_init_25 rfl (fun H locs hI => ?_)
  refine lv_aload_n hx hb d_Meths_init_28 rfl (lv_at hl 0 rfl) ?_
  refine lv_bipush (v := 72) hx hb d_Meths_init_29 (by decide) ?_
  refine rb_newI C hI tm_35 0 (cA := cI) rfl (N := 72) (by decide) rfl (by decide) (Nat.le_of_ble_eq_true rfl) (by show 0 + 6 + 6 + 72 + 72 ≤ 300; omega) d_Meths_init_31 (fun q4 H hI => ?_)
  have hI : Wi (dC, dI) clA [(h, .inr (2, [.ref q1, .ref q2, .ref q3, .null, .null, .null, .int 0, .int 0])), (q1, .inl (cI, 6, .inl fun _ => 0)), (q2, .inl (cI, 6, .inl fun _ => 0)), (q3, .inl (cI, 72, .inl fun _ => 0)), (q4, .inl (cI, 72, .inl fun _ => 0))] s A H _ := hI
  refine rb_pF C hI (ty := .array .int) (w' := [(h, .inr (2, [.ref q1, .ref q2, .ref q3, .ref q4, .null, .null, .int 0, .int 0])), (q1, .inl (cI, 6, .inl fun _ => 0)), (q2, .inl (cI, 6, .inl fun _ => 0)), (q3, .inl (cI, 72, .inl fun _ => 0)), (q4, .inl (cI, 72, .inl fun _ => 0))]) in_Meths t_Meths t_Meths_ok n_Meths 0 rfl rfl 3 (by decide) tm_47 rfl hnm rfl (by decide +kernel) rfl rfl (Nat.le_of_ble_eq_true rfl) d_Meths_init_33 rfl (fun H locs hI => ?_)
  refine lv_aload_n hx hb d_Meths_init_36 rfl (lv_at hl 0 rfl) ?_
  refine lv_bipush (v := 72) hx hb d_Meths_init_37 (by decide) ?_
  refine rb_newI C hI tm_35 0 (cA := cI) rfl (N := 72) (by decide) rfl (by decide) (Nat.le_of_ble_eq_true rfl) (by show 0 + 6 + 6 + 72 + 72 + 72 ≤ 300; omega) d_Meths_init_39 (fun q5 H hI => ?_)
  have hI : Wi (dC, dI) clA [(h, .inr (2, [.ref q1, .ref q2, .ref q3, .ref q4, .null, .null, .int 0, .int 0])), (q1, .inl (cI, 6, .inl fun _ => 0)), (q2, .inl (cI, 6, .inl fun _ => 0)), (q3, .inl (cI, 72, .inl fun _ => 0)), (q4, .inl (cI, 72, .inl fun _ => 0)), (q5, .inl (cI, 72, .inl fun _ => 0))] s A H _ := hI
  refine rb_pF C hI (ty := .array .int) (w' := [(h, .inr (2, [.ref q1, .ref q2, .ref q3, .ref q4, .ref q5, .null, .int 0, .int 0])), (q1, .inl (cI, 6, .inl fun _ => 0)), (q2, .inl (cI, 6, .inl fun _ => 0)), (q3, .inl (cI, 72, .inl fun _ => 0)), (q4, .inl (cI, 72, .inl fun _ => 0)), (q5, .inl (cI, 72, .inl fun _ => 0))]) in_Meths t_Meths t_Meths_ok n_Meths 0 rfl rfl 4 (by decide) tm_49 rfl hnm rfl (by decide +kernel) rfl rfl (Nat.le_of_ble_eq_true rfl) d_Meths_init_41 rfl (fun H locs hI => ?_)
  refine lv_aload_n hx hb d_Meths_init_44 rfl (lv_at hl 0 rfl) ?_
  refine lv_bipush (v := 72) hx hb d_Meths_init_45 (by decide) ?_
  refine rb_newI C hI tm_35 0 (cA := cI) rfl (N := 72) (by decide) rfl (by decide) (Nat.le_of_ble_eq_true rfl) (by show 0 + 6 + 6 + 72 + 72 + 72 + 72 ≤ 300; omega) d_Meths_init_47 (fun q6 H hI => ?_)
  have hI : Wi (dC, dI) clA [(h, .inr (2, [.ref q1, .ref q2, .ref q3, .ref q4, .ref q5, .null, .int 0, .int 0])), (q1, .inl (cI, 6, .inl fun _ => 0)), (q2, .inl (cI, 6, .inl fun _ => 0)), (q3, .inl (cI, 72, .inl fun _ => 0)), (q4, .inl (cI, 72, .inl fun _ => 0)), (q5, .inl (cI, 72, .inl fun _ => 0)), (q6, .inl (cI, 72, .inl fun _ => 0))] s A H _ := hI
  refine rb_pF C hI (ty := .array .int) (w' := [(h, .inr (2, [.ref q1, .ref q2, .ref q3, .ref q4, .ref q5, .ref q6, .int 0, .int 0])), (q1, .inl (cI, 6, .inl fun _ => 0)), (q2, .inl (cI, 6, .inl fun _ => 0)), (q3, .inl (cI, 72, .inl fun _ => 0)), (q4, .inl (cI, 72, .inl fun _ => 0)), (q5, .inl (cI, 72, .inl fun _ => 0)), (q6, .inl (cI, 72, .inl fun _ => 0))]) in_Meths t_Meths t_Meths_ok n_Meths 0 rfl rfl 5 (by decide) tm_51 rfl hnm rfl (by decide +kernel) rfl rfl (Nat.le_of_ble_eq_true rfl) d_Meths_init_49 rfl (fun H locs hI => ?_)
  refine W.widen (k := 6) (n := 300) (by show 0 + 1 + 1 + 1 + 1 + 1 + 1 ≤ 6; omega) (by show 0 + 6 + 6 + 72 + 72 + 72 + 72 ≤ 300; omega) ?_
  exact rb_retN C hr hI ⟨q1, q2, q3, q4, q5, q6, rfl⟩ d_Meths_init_52
abbrev rm_Room_init (L : Nat) : Room := { frames := 1, cells := 3, slots := 3 * L, locals := 14 }
theorem d_Room_init_0 : decode b_Room_init 0 = .ok (.aload_n 0, 1) := by decide +kernel
theorem d_Room_init_1 : decode b_Room_init 1 = .ok (.invokespecial 3, 3) := by decide +kernel
theorem d_Room_init_4 : decode b_Room_init 4 = .ok (.aload_n 0, 1) := by decide +kernel
theorem d_Room_init_5 : decode b_Room_init 5 = .ok (.iload_n 1, 1) := by decide +kernel
theorem d_Room_init_6 : decode b_Room_init 6 = .ok (.putfield 9, 3) := by decide +kernel
theorem d_Room_init_9 : decode b_Room_init 9 = .ok (.aload_n 0, 1) := by decide +kernel
theorem d_Room_init_10 : decode b_Room_init 10 = .ok (.iload_n 2, 1) := by decide +kernel
theorem d_Room_init_11 : decode b_Room_init 11 = .ok (.putfield 15, 3) := by decide +kernel
theorem d_Room_init_14 : decode b_Room_init 14 = .ok (.aload_n 0, 1) := by decide +kernel
theorem d_Room_init_15 : decode b_Room_init 15 = .ok (.iconst 2, 1) := by decide +kernel
theorem d_Room_init_16 : decode b_Room_init 16 = .ok (.iload_n 1, 1) := by decide +kernel
theorem d_Room_init_17 : decode b_Room_init 17 = .ok (.imul, 1) := by decide +kernel
theorem d_Room_init_18 : decode b_Room_init 18 = .ok (.newarray .int, 2) := by decide +kernel
theorem d_Room_init_20 : decode b_Room_init 20 = .ok (.putfield 18, 3) := by decide +kernel
theorem d_Room_init_23 : decode b_Room_init 23 = .ok (.aload_n 0, 1) := by decide +kernel
theorem d_Room_init_24 : decode b_Room_init 24 = .ok (.iconst 2, 1) := by decide +kernel
theorem d_Room_init_25 : decode b_Room_init 25 = .ok (.iload_n 1, 1) := by decide +kernel
theorem d_Room_init_26 : decode b_Room_init 26 = .ok (.imul, 1) := by decide +kernel
theorem d_Room_init_27 : decode b_Room_init 27 = .ok (.newarray .int, 2) := by decide +kernel
theorem d_Room_init_29 : decode b_Room_init 29 = .ok (.putfield 22, 3) := by decide +kernel
theorem d_Room_init_32 : decode b_Room_init 32 = .ok (.aload_n 0, 1) := by decide +kernel
theorem d_Room_init_33 : decode b_Room_init 33 = .ok (.iconst 2, 1) := by decide +kernel
theorem d_Room_init_34 : decode b_Room_init 34 = .ok (.iload_n 1, 1) := by decide +kernel
theorem d_Room_init_35 : decode b_Room_init 35 = .ok (.imul, 1) := by decide +kernel
theorem d_Room_init_36 : decode b_Room_init 36 = .ok (.newarray .int, 2) := by decide +kernel
theorem d_Room_init_38 : decode b_Room_init 38 = .ok (.putfield 25, 3) := by decide +kernel
theorem d_Room_init_41 : decode b_Room_init 41 = .ok (.aload_n 0, 1) := by decide +kernel
theorem d_Room_init_42 : decode b_Room_init 42 = .ok (.iconst (-1), 1) := by decide +kernel
theorem d_Room_init_43 : decode b_Room_init 43 = .ok (.putfield 28, 3) := by decide +kernel
theorem d_Room_init_46 : decode b_Room_init 46 = .ok (.return_, 1) := by decide +kernel
set_option maxHeartbeats 4000000 in
set_option maxRecDepth 100000 in
theorem c_Room_init {l : Launch} {dC : Nat → ClassId} {dI : Nat → Nat → Nat} {cI cZ : ClassId} {tt : Nat → Nat} {h : Nat} {x1 x2 : Int32} {L : Nat} (hn : ¬ (2 : Int32) * x1 < 0) (hN : ((2 : Int32) * x1).toNatClampNeg = L) (hL : L ≤ 1000) : CN l (dC, dI) clA (tyM cI cZ) (SXx tt) [(h, .inr (3, [.int 0, .int 0, .null, .null, .null, .int 0, .int 0, .int 0, .int 0, .int 0, .int 0, .int 0, .int 0, .int 0, .int 0]))] (fun u => ∃ q1 q2 q3 : Nat, u = [(h, .inr (3, [.int x1, .int x2, .ref q1, .ref q2, .ref q3, .int (-1), .int 0, .int 0, .int 0, .int 0, .int 0, .int 0, .int 0, .int 0, .int 0])), (q1, .inl (cI, L, .inl fun _ => 0)), (q2, .inl (cI, L, .inl fun _ => 0)), (q3, .inl (cI, L, .inl fun _ => 0))]) y_Room_init b_Room_init 3 (rm_Room_init L) [.ref h, .int x1, .int x2] 3 (3 * L) := by
  refine CN_of (by decide) rfl (Nat.le_of_ble_eq_true rfl) ?_
  intro pr e s m below meth c A ls C hr hnm hl hI
  have hx := C.1
  have hb := C.2.1
  have hl : lv_has ls 3 [(0, .ref h), (1, .int x1), (2, .int x2)] := hl
  refine lv_aload_n hx hb d_Room_init_0 rfl (lv_at hl 0 rfl) ?_
  refine rb_oinit C tm_84 tm_14 tm_15 hl.1 d_Room_init_1 (Nat.le_of_ble_eq_true rfl) (Nat.le_of_ble_eq_true rfl) ?_
  refine lv_aload_n hx hb d_Room_init_4 rfl (lv_at hl 0 rfl) ?_
  refine lv_iload_n hx hb d_Room_init_5 rfl (lv_at hl 1 rfl) ?_
  refine rb_pF C hI (ty := .int) (w' := [(h, .inr (3, [.int x1, .int 0, .null, .null, .null, .int 0, .int 0, .int 0, .int 0, .int 0, .int 0, .int 0, .int 0, .int 0, .int 0]))]) in_Room t_Room t_Room_ok n_Room 0 rfl rfl 0 (by decide) tm_85 rfl hnm rfl (by decide +kernel) rfl rfl (Nat.le_of_ble_eq_true rfl) d_Room_init_6 rfl (fun H locs hI => ?_)
  refine lv_aload_n hx hb d_Room_init_9 rfl (lv_at hl 0 rfl) ?_
  refine lv_iload_n hx hb d_Room_init_10 rfl (lv_at hl 2 rfl) ?_
  refine rb_pF C hI (ty := .int) (w' := [(h, .inr (3, [.int x1, .int x2, .null, .null, .null, .int 0, .int 0, .int 0, .int 0, .int 0, .int 0, .int 0, .int 0, .int 0, .int 0]))]) in_Room t_Room t_Room_ok n_Room 0 rfl rfl 1 (by decide) tm_86 rfl hnm rfl (by decide +kernel) rfl rfl (Nat.le_of_ble_eq_true rfl) d_Room_init_11 rfl (fun H locs hI => ?_)
  refine lv_aload_n hx hb d_Room_init_14 rfl (lv_at hl 0 rfl) ?_
  refine lv_iconst (v := 2) hx hb d_Room_init_15 (by decide) ?_
  refine lv_iload_n hx hb d_Room_init_16 rfl (lv_at hl 1 rfl) ?_
  refine lv_imul hx hb d_Room_init_17 ?_
  refine rb_newI C hI tm_35 0 (cA := cI) rfl (N := L) hn hN (by show L * 4 ≤ _; omega) (Nat.le_of_ble_eq_true rfl) (by show 0 + L ≤ 3 * L; omega) d_Room_init_18 (fun q1 H hI => ?_)
  have hI : Wi (dC, dI) clA [(h, .inr (3, [.int x1, .int x2, .null, .null, .null, .int 0, .int 0, .int 0, .int 0, .int 0, .int 0, .int 0, .int 0, .int 0, .int 0])), (q1, .inl (cI, L, .inl fun _ => 0))] s A H _ := hI
  refine rb_pF C hI (ty := .array .int) (w' := [(h, .inr (3, [.int x1, .int x2, .ref q1, .null, .null, .int 0, .int 0, .int 0, .int 0, .int 0, .int 0, .int 0, .int 0, .int 0, .int 0])), (q1, .inl (cI, L, .inl fun _ => 0))]) in_Room t_Room t_Room_ok n_Room 0 rfl rfl 2 (by decide) tm_87 rfl hnm rfl (by decide +kernel) rfl rfl (Nat.le_of_ble_eq_true rfl) d_Room_init_20 rfl (fun H locs hI => ?_)
  refine lv_aload_n hx hb d_Room_init_23 rfl (lv_at hl 0 rfl) ?_
  refine lv_iconst (v := 2) hx hb d_Room_init_24 (by decide) ?_
  refine lv_iload_n hx hb d_Room_init_25 rfl (lv_at hl 1 rfl) ?_
  refine lv_imul hx hb d_Room_init_26 ?_
  refine rb_newI C hI tm_35 0 (cA := cI) rfl (N := L) hn hN (by show L * 4 ≤ _; omega) (Nat.le_of_ble_eq_true rfl) (by show 0 + L + L ≤ 3 * L; omega) d_Room_init_27 (fun q2 H hI => ?_)
  have hI : Wi (dC, dI) clA [(h, .inr (3, [.int x1, .int x2, .ref q1, .null, .null, .int 0, .int 0, .int 0, .int 0, .int 0, .int 0, .int 0, .int 0, .int 0, .int 0])), (q1, .inl (cI, L, .inl fun _ => 0)), (q2, .inl (cI, L, .inl fun _ => 0))] s A H _ := hI
  refine rb_pF C hI (ty := .array .int) (w' := [(h, .inr (3, [.int x1, .int x2, .ref q1, .ref q2, .null, .int 0, .int 0, .int 0, .int 0, .int 0, .int 0, .int 0, .int 0, .int 0, .int 0])), (q1, .inl (cI, L, .inl fun _ => 0)), (q2, .inl (cI, L, .inl fun _ => 0))]) in_Room t_Room t_Room_ok n_Room 0 rfl rfl 3 (by decide) tm_88 rfl hnm rfl (by decide +kernel) rfl rfl (Nat.le_of_ble_eq_true rfl) d_Room_init_29 rfl (fun H locs hI => ?_)
  refine lv_aload_n hx hb d_Room_init_32 rfl (lv_at hl 0 rfl) ?_
  refine lv_iconst (v := 2) hx hb d_Room_init_33 (by decide) ?_
  refine lv_iload_n hx hb d_Room_init_34 rfl (lv_at hl 1 rfl) ?_
  refine lv_imul hx hb d_Room_init_35 ?_
  refine rb_newI C hI tm_35 0 (cA := cI) rfl (N := L) hn hN (by show L * 4 ≤ _; omega) (Nat.le_of_ble_eq_true rfl) (by show 0 + L + L + L ≤ 3 * L; omega) d_Room_init_36 (fun q3 H hI => ?_)
  have hI : Wi (dC, dI) clA [(h, .inr (3, [.int x1, .int x2, .ref q1, .ref q2, .null, .int 0, .int 0, .int 0, .int 0, .int 0, .int 0, .int 0, .int 0, .int 0, .int 0])), (q1, .inl (cI, L, .inl fun _ => 0)), (q2, .inl (cI, L, .inl fun _ => 0)), (q3, .inl (cI, L, .inl fun _ => 0))] s A H _ := hI
  refine rb_pF C hI (ty := .array .int) (w' := [(h, .inr (3, [.int x1, .int x2, .ref q1, .ref q2, .ref q3, .int 0, .int 0, .int 0, .int 0, .int 0, .int 0, .int 0, .int 0, .int 0, .int 0])), (q1, .inl (cI, L, .inl fun _ => 0)), (q2, .inl (cI, L, .inl fun _ => 0)), (q3, .inl (cI, L, .inl fun _ => 0))]) in_Room t_Room t_Room_ok n_Room 0 rfl rfl 4 (by decide) tm_89 rfl hnm rfl (by decide +kernel) rfl rfl (Nat.le_of_ble_eq_true rfl) d_Room_init_38 rfl (fun H locs hI => ?_)
  refine lv_aload_n hx hb d_Room_init_41 rfl (lv_at hl 0 rfl) ?_
  refine lv_iconst (v := (-1)) hx hb d_Room_init_42 (by decide) ?_
  refine rb_pN C hI (ty := .int) (w' := [(h, .inr (3, [.int x1, .int x2, .ref q1, .ref q2, .ref q3, .int (-1), .int 0, .int 0, .int 0, .int 0, .int 0, .int 0, .int 0, .int 0, .int 0])), (q1, .inl (cI, L, .inl fun _ => 0)), (q2, .inl (cI, L, .inl fun _ => 0)), (q3, .inl (cI, L, .inl fun _ => 0))]) in_Room t_Room t_Room_ok n_Room 0 rfl rfl 5 (by decide) tm_90 rfl rfl (by decide +kernel) rfl rfl (Nat.le_of_ble_eq_true rfl) d_Room_init_43 rfl (fun H locs hI => ?_)
  refine W.widen (k := 3) (n := (3 * L)) (by show 0 + 1 + 1 + 1 ≤ 3; omega) (by show 0 + L + L + L ≤ (3 * L); omega) ?_
  exact rb_retN C hr hI ⟨q1, q2, q3, rfl⟩ d_Room_init_46
theorem mk_Mach_25 {p : Program} {l : Launch} {e : Env} {R : Room} {s : State} {m : MethodId} {args : Array Value} {below : List Frame} {meth : Method} {c : Code} {H : Heap} {locs : List Loc} {cells slots : Nat} {Q : State → Prop} {cc : ByteArray} {pc nL : Nat} {ls : Array Slot} {rest : List Value} {A : Nat → Prop} {D : va_G} {cl : List vw_C} {tys : List (ClassId × FieldType)} {SX : (Nat → Prop) → State → Prop} {x y : Int32} (C : Cx D cl tys SX p s m args meth c cc nL R_Mach A) (hsz : ls.size = nL) (hfr : 1 ≤ R.frames) (hlo : (rest.map fun v => v.category).sum + 13 ≤ R.locals) (hcs : cells ≤ R.cells ∧ slots ≤ R.slots) (hdg : decode cc pc = .ok (.invokestatic 25, 3)) (kk : W p l e R s m args below meth c H locs cells slots Q (F0 m (pc + 3) ls (.int (if y < x then y else x) :: rest))) : W p l e R s m args below meth c H locs cells slots Q (F0 m pc ls (.int y :: .int x :: rest)) :=
  va_mmin C.1 C.2.1 (C.2.2.1.trans hsz.symm) C.2.2.2.1 (C.2.2.2.2.1 _ tm_75) (C.2.2.2.2.1 _ tm_76) (C.2.2.2.2.1 _ tm_5) (C.2.2.2.2.1 _ tm_77) hfr hlo hcs.1 hcs.2 hdg kk
theorem mk_Mach_31 {p : Program} {l : Launch} {e : Env} {R : Room} {s : State} {m : MethodId} {args : Array Value} {below : List Frame} {meth : Method} {c : Code} {H : Heap} {locs : List Loc} {cells slots : Nat} {Q : State → Prop} {cc : ByteArray} {pc nL : Nat} {ls : Array Slot} {rest : List Value} {A : Nat → Prop} {D : va_G} {cl : List vw_C} {tys : List (ClassId × FieldType)} {SX : (Nat → Prop) → State → Prop} {x y : Int32} (C : Cx D cl tys SX p s m args meth c cc nL R_Mach A) (hsz : ls.size = nL) (hfr : 1 ≤ R.frames) (hlo : (rest.map fun v => v.category).sum + 13 ≤ R.locals) (hcs : cells ≤ R.cells ∧ slots ≤ R.slots) (hdg : decode cc pc = .ok (.invokestatic 31, 3)) (kk : W p l e R s m args below meth c H locs cells slots Q (F0 m (pc + 3) ls (.int (if x < y then y else x) :: rest))) : W p l e R s m args below meth c H locs cells slots Q (F0 m pc ls (.int y :: .int x :: rest)) :=
  va_mmax C.1 C.2.1 (C.2.2.1.trans hsz.symm) C.2.2.2.1 (C.2.2.2.2.1 _ tm_78) (C.2.2.2.2.1 _ tm_79) (C.2.2.2.2.1 _ tm_5) (C.2.2.2.2.1 _ tm_80) hfr hlo hcs.1 hcs.2 hdg kk
theorem ck_Kinds_init : cKN y_Kinds_init b_Kinds_init 1 0 := ⟨tm_20, tm_19, tm_2, rfl, by decide +kernel⟩
theorem ck_Meths_init : cKN y_Meths_init b_Meths_init 1 0 := ⟨tm_40, tm_39, tm_3, rfl, by decide +kernel⟩
theorem ck_Mach_34 : cK R_Mach 34 y_Room_init b_Room_init 3 2 := ⟨tm_83, tm_81, tm_82, tm_4, rfl, by decide +kernel⟩
def lmt (x : Int32) : Int32 := if (24 : Int32) < (if x < (120 : Int32) then x else 120) then (if x < (120 : Int32) then x else 120) else 24
def pce (x : Int32) : Int32 := if (1 : Int32) < (if x < (8 : Int32) then x else 8) then (if x < (8 : Int32) then x else 8) else 1
theorem clampI (lo hi : Nat) (hlh : lo ≤ hi) (hhi : hi < 1000) (x : Int32) : ∃ n, lo ≤ n ∧ n ≤ hi ∧ (if nI lo < (if x < nI hi then x else nI hi) then (if x < nI hi then x else nI hi) else nI lo) = nI n := by
  have h1 : (nI lo).toInt = lo := nI_toInt (by omega)
  have h2 : (nI hi).toInt = hi := nI_toInt (by omega)
  by_cases hx : x < nI hi
  · rw [if_pos hx]
    by_cases hy : nI lo < x
    · rw [if_pos hy]
      have a := Int32.lt_iff_toInt_lt.mp hx
      have b := Int32.lt_iff_toInt_lt.mp hy
      rw [h2] at a
      rw [h1] at b
      refine ⟨x.toInt.toNat, by omega, by omega, ?_⟩
      apply Int32.toInt_inj.mp
      rw [nI_toInt (by omega)]
      omega
    · rw [if_neg hy]; exact ⟨lo, by omega, by omega, rfl⟩
  · rw [if_neg hx]
    by_cases hy : nI lo < nI hi
    · rw [if_pos hy]; exact ⟨hi, by omega, by omega, rfl⟩
    · rw [if_neg hy]; exact ⟨lo, by omega, by omega, rfl⟩
theorem lmt_spec (x : Int32) : ∃ n, 24 ≤ n ∧ n ≤ 120 ∧ lmt x = nI n := clampI 24 120 (by omega) (by omega) x
theorem pce_spec (x : Int32) : ∃ n, 1 ≤ n ∧ n ≤ 8 ∧ pce x = nI n := clampI 1 8 (by omega) (by omega) x
def sg0 (x1 x2 : Int32) : St := (upd (upd (upd (upd (fun _ => 0) 1 4) 9 (lmt x1)) 10 (pce x2)) 11 (-1), fun _ _ => 0)
abbrev rm_Mach_init : Room := { frames := 2, cells := 16, slots := 1100, locals := 60 }
theorem d_Mach_init_0 : decode b_Mach_init 0 = .ok (.aload_n 0, 1) := by decide +kernel
theorem d_Mach_init_1 : decode b_Mach_init 1 = .ok (.invokespecial 1, 3) := by decide +kernel
theorem d_Mach_init_4 : decode b_Mach_init 4 = .ok (.aload_n 0, 1) := by decide +kernel
theorem d_Mach_init_5 : decode b_Mach_init 5 = .ok (.new 7, 3) := by decide +kernel
theorem d_Mach_init_8 : decode b_Mach_init 8 = .ok (.dup, 1) := by decide +kernel
theorem d_Mach_init_9 : decode b_Mach_init 9 = .ok (.invokespecial 9, 3) := by decide +kernel
theorem d_Mach_init_12 : decode b_Mach_init 12 = .ok (.putfield 10, 3) := by decide +kernel
theorem d_Mach_init_15 : decode b_Mach_init 15 = .ok (.aload_n 0, 1) := by decide +kernel
theorem d_Mach_init_16 : decode b_Mach_init 16 = .ok (.new 16, 3) := by decide +kernel
theorem d_Mach_init_19 : decode b_Mach_init 19 = .ok (.dup, 1) := by decide +kernel
theorem d_Mach_init_20 : decode b_Mach_init 20 = .ok (.invokespecial 18, 3) := by decide +kernel
theorem d_Mach_init_23 : decode b_Mach_init 23 = .ok (.putfield 19, 3) := by decide +kernel
theorem d_Mach_init_26 : decode b_Mach_init 26 = .ok (.aload_n 0, 1) := by decide +kernel
theorem d_Mach_init_27 : decode b_Mach_init 27 = .ok (.new 23, 3) := by decide +kernel
theorem d_Mach_init_30 : decode b_Mach_init 30 = .ok (.dup, 1) := by decide +kernel
theorem d_Mach_init_31 : decode b_Mach_init 31 = .ok (.bipush 24, 2) := by decide +kernel
theorem d_Mach_init_33 : decode b_Mach_init 33 = .ok (.bipush 120, 2) := by decide +kernel
theorem d_Mach_init_35 : decode b_Mach_init 35 = .ok (.iload_n 1, 1) := by decide +kernel
theorem d_Mach_init_36 : decode b_Mach_init 36 = .ok (.invokestatic 25, 3) := by decide +kernel
theorem d_Mach_init_39 : decode b_Mach_init 39 = .ok (.invokestatic 31, 3) := by decide +kernel
theorem d_Mach_init_42 : decode b_Mach_init 42 = .ok (.iconst 1, 1) := by decide +kernel
theorem d_Mach_init_43 : decode b_Mach_init 43 = .ok (.bipush 8, 2) := by decide +kernel
theorem d_Mach_init_45 : decode b_Mach_init 45 = .ok (.iload_n 2, 1) := by decide +kernel
theorem d_Mach_init_46 : decode b_Mach_init 46 = .ok (.invokestatic 25, 3) := by decide +kernel
theorem d_Mach_init_49 : decode b_Mach_init 49 = .ok (.invokestatic 31, 3) := by decide +kernel
theorem d_Mach_init_52 : decode b_Mach_init 52 = .ok (.invokespecial 34, 3) := by decide +kernel
theorem d_Mach_init_55 : decode b_Mach_init 55 = .ok (.putfield 37, 3) := by decide +kernel
theorem d_Mach_init_58 : decode b_Mach_init 58 = .ok (.aload_n 0, 1) := by decide +kernel
theorem d_Mach_init_59 : decode b_Mach_init 59 = .ok (.bipush 8, 2) := by decide +kernel
theorem d_Mach_init_61 : decode b_Mach_init 61 = .ok (.newarray .int, 2) := by decide +kernel
theorem d_Mach_init_63 : decode b_Mach_init 63 = .ok (.putfield 41, 3) := by decide +kernel
theorem d_Mach_init_66 : decode b_Mach_init 66 = .ok (.aload_n 0, 1) := by decide +kernel
theorem d_Mach_init_67 : decode b_Mach_init 67 = .ok (.iconst 4, 1) := by decide +kernel
theorem d_Mach_init_68 : decode b_Mach_init 68 = .ok (.putfield 45, 3) := by decide +kernel
theorem d_Mach_init_71 : decode b_Mach_init 71 = .ok (.return_, 1) := by decide +kernel
set_option maxHeartbeats 4000000 in
set_option maxRecDepth 100000 in
theorem c_Mach_init {l : Launch} {dC : Nat → ClassId} {dI : Nat → Nat → Nat} {cI cZ : ClassId} {tt : Nat → Nat} {h : Nat} {x1 x2 : Int32} : CN l (dC, dI) clA (tyM cI cZ) (SXx tt) [(h, .inr (0, [.null, .null, .null, .null, .int 0, .int 0, .int 0, .int 0, .int 0, .int 0]))] (fun u => ∃ (a : Nat → Nat) (n : Nat), a 0 = h ∧ 24 ≤ n ∧ n ≤ 120 ∧ lmt x1 = nI n ∧ u = wX a cI (2 * n) (sg0 x1 x2)) y_Mach_init b_Mach_init 3 rm_Mach_init [.ref h, .int x1, .int x2] 16 1100 := by
  refine CN_of (by decide) rfl (Nat.le_of_ble_eq_true rfl) ?_
  intro pr e s m below meth c A ls C hr hnm hl hI
  have hx := C.1
  have hb := C.2.1
  have hl : lv_has ls 3 [(0, .ref h), (1, .int x1), (2, .int x2)] := hl
  obtain ⟨n, hn0, hn1, hn3⟩ := lmt_spec x1
  have hm : (2 : Int32) * lmt x1 = nI (2 * n) := by rw [hn3]; exact pk_mul 2 n
  have hn2 : ¬ (2 : Int32) * lmt x1 < 0 := by rw [hm]; exact nI_pos (by omega)
  have hN2 : ((2 : Int32) * lmt x1).toNatClampNeg = 2 * n := by rw [hm]; exact nI_clamp (by omega)
  refine lv_aload_n hx hb d_Mach_init_0 rfl (lv_at hl 0 rfl) ?_
  refine rb_oinit C tm_13 tm_14 tm_15 hl.1 d_Mach_init_1 (Nat.le_of_ble_eq_true rfl) (Nat.le_of_ble_eq_true rfl) ?_
  refine lv_aload_n hx hb d_Mach_init_4 rfl (lv_at hl 0 rfl) ?_
  refine rb_newC C hI (ci := 1) (fs := [.null, .null, .null, .int 0]) in_Kinds t_Kinds t_Kinds_ok tm_16 tm_17 tm_2 rfl df_Kinds (Nat.le_of_ble_eq_true rfl) (Nat.le_of_ble_eq_true rfl) d_Mach_init_5 (fun q1 H hI => ?_)
  have hI : Wi (dC, dI) clA [(h, .inr (0, [.null, .null, .null, .null, .int 0, .int 0, .int 0, .int 0, .int 0, .int 0])), (q1, .inr (1, [.null, .null, .null, .int 0]))] s A H _ := hI
  refine lv_dup hx hb d_Mach_init_8 rfl ?_
  refine rb_callKN sxok C (c_Kinds_init (h := q1)) (C.2.2.2.2.2.2.2.1.2.1 ("ReadBarrierMachine", 9, y_Kinds_init, "ReadBarrierMachine") (by decide)) ck_Kinds_init ⟨Nat.le_of_ble_eq_true rfl, Nat.le_of_ble_eq_true rfl⟩ ⟨rfl, rfl⟩ [1] [0] (wr := [(h, .inr (0, [.null, .null, .null, .null, .int 0, .int 0, .int 0, .int 0, .int 0, .int 0]))]) rfl rfl rfl (by decide) (by decide) (by decide) hI ⟨Nat.le_of_ble_eq_true rfl, Nat.le_of_ble_eq_true rfl⟩ (As := []) rfl hl.1 (rest := [.ref q1, .ref h]) (Nat.le_of_ble_eq_true rfl) rfl d_Mach_init_9 (fun u H locs hu hI => ?_)
  obtain ⟨k1, k2, k3, rfl⟩ := hu
  have hI : Wi (dC, dI) clA [(h, .inr (0, [.null, .null, .null, .null, .int 0, .int 0, .int 0, .int 0, .int 0, .int 0])), (q1, .inr (1, [.ref k1, .ref k2, .ref k3, .int 0])), (k1, .inl (cI, 4, .inl fun _ => 0)), (k2, .inl (cI, 4, .inl fun _ => 0)), (k3, .inl (cI, 16, .inl fun _ => 0))] s A H _ := hI
  refine rb_pF C hI (ty := .object "ReadBarrierMachine$Kinds") (w' := [(h, .inr (0, [.ref q1, .null, .null, .null, .int 0, .int 0, .int 0, .int 0, .int 0, .int 0])), (q1, .inr (1, [.ref k1, .ref k2, .ref k3, .int 0])), (k1, .inl (cI, 4, .inl fun _ => 0)), (k2, .inl (cI, 4, .inl fun _ => 0)), (k3, .inl (cI, 16, .inl fun _ => 0))]) in_Mach t_Mach t_Mach_ok n_Mach 0 rfl rfl 0 (by decide) tm_135 rfl hnm rfl (by decide +kernel) rfl rfl (Nat.le_of_ble_eq_true rfl) d_Mach_init_12 rfl (fun H locs hI => ?_)
  refine lv_aload_n hx hb d_Mach_init_15 rfl (lv_at hl 0 rfl) ?_
  refine rb_newC C hI (ci := 2) (fs := [.null, .null, .null, .null, .null, .null, .int 0, .int 0]) in_Meths t_Meths t_Meths_ok tm_36 tm_37 tm_3 rfl df_Meths (Nat.le_of_ble_eq_true rfl) (Nat.le_of_ble_eq_true rfl) d_Mach_init_16 (fun q2 H hI => ?_)
  have hI : Wi (dC, dI) clA [(h, .inr (0, [.ref q1, .null, .null, .null, .int 0, .int 0, .int 0, .int 0, .int 0, .int 0])), (q1, .inr (1, [.ref k1, .ref k2, .ref k3, .int 0])), (k1, .inl (cI, 4, .inl fun _ => 0)), (k2, .inl (cI, 4, .inl fun _ => 0)), (k3, .inl (cI, 16, .inl fun _ => 0)), (q2, .inr (2, [.null, .null, .null, .null, .null, .null, .int 0, .int 0]))] s A H _ := hI
  refine lv_dup hx hb d_Mach_init_19 rfl ?_
  refine rb_callKN sxok C (c_Meths_init (h := q2)) (C.2.2.2.2.2.2.2.1.2.1 ("ReadBarrierMachine", 18, y_Meths_init, "ReadBarrierMachine") (by decide)) ck_Meths_init ⟨Nat.le_of_ble_eq_true rfl, Nat.le_of_ble_eq_true rfl⟩ ⟨rfl, rfl⟩ [5] [0, 1, 2, 3, 4] (wr := [(h, .inr (0, [.ref q1, .null, .null, .null, .int 0, .int 0, .int 0, .int 0, .int 0, .int 0])), (q1, .inr (1, [.ref k1, .ref k2, .ref k3, .int 0])), (k1, .inl (cI, 4, .inl fun _ => 0)), (k2, .inl (cI, 4, .inl fun _ => 0)), (k3, .inl (cI, 16, .inl fun _ => 0))]) rfl rfl rfl (by decide) (by decide) (by decide) hI ⟨Nat.le_of_ble_eq_true rfl, Nat.le_of_ble_eq_true rfl⟩ (As := []) rfl hl.1 (rest := [.ref q2, .ref h]) (Nat.le_of_ble_eq_true rfl) rfl d_Mach_init_20 (fun u H locs hu hI => ?_)
  obtain ⟨m1, m2, m3, m4, m5, m6, rfl⟩ := hu
  have hI : Wi (dC, dI) clA [(h, .inr (0, [.ref q1, .null, .null, .null, .int 0, .int 0, .int 0, .int 0, .int 0, .int 0])), (q1, .inr (1, [.ref k1, .ref k2, .ref k3, .int 0])), (k1, .inl (cI, 4, .inl fun _ => 0)), (k2, .inl (cI, 4, .inl fun _ => 0)), (k3, .inl (cI, 16, .inl fun _ => 0)), (q2, .inr (2, [.ref m1, .ref m2, .ref m3, .ref m4, .ref m5, .ref m6, .int 0, .int 0])), (m1, .inl (cI, 6, .inl fun _ => 0)), (m2, .inl (cI, 6, .inl fun _ => 0)), (m3, .inl (cI, 72, .inl fun _ => 0)), (m4, .inl (cI, 72, .inl fun _ => 0)), (m5, .inl (cI, 72, .inl fun _ => 0)), (m6, .inl (cI, 72, .inl fun _ => 0))] s A H _ := hI
  refine rb_pF C hI (ty := .object "ReadBarrierMachine$Methods") (w' := [(h, .inr (0, [.ref q1, .ref q2, .null, .null, .int 0, .int 0, .int 0, .int 0, .int 0, .int 0])), (q1, .inr (1, [.ref k1, .ref k2, .ref k3, .int 0])), (k1, .inl (cI, 4, .inl fun _ => 0)), (k2, .inl (cI, 4, .inl fun _ => 0)), (k3, .inl (cI, 16, .inl fun _ => 0)), (q2, .inr (2, [.ref m1, .ref m2, .ref m3, .ref m4, .ref m5, .ref m6, .int 0, .int 0])), (m1, .inl (cI, 6, .inl fun _ => 0)), (m2, .inl (cI, 6, .inl fun _ => 0)), (m3, .inl (cI, 72, .inl fun _ => 0)), (m4, .inl (cI, 72, .inl fun _ => 0)), (m5, .inl (cI, 72, .inl fun _ => 0)), (m6, .inl (cI, 72, .inl fun _ => 0))]) in_Mach t_Mach t_Mach_ok n_Mach 0 rfl rfl 1 (by decide) tm_136 rfl hnm rfl (by decide +kernel) rfl rfl (Nat.le_of_ble_eq_true rfl) d_Mach_init_23 rfl (fun H locs hI => ?_)
  refine lv_aload_n hx hb d_Mach_init_26 rfl (lv_at hl 0 rfl) ?_
  refine rb_newC C hI (ci := 3) (fs := [.int 0, .int 0, .null, .null, .null, .int 0, .int 0, .int 0, .int 0, .int 0, .int 0, .int 0, .int 0, .int 0, .int 0]) in_Room t_Room t_Room_ok tm_73 tm_74 tm_4 rfl df_Room (Nat.le_of_ble_eq_true rfl) (Nat.le_of_ble_eq_true rfl) d_Mach_init_27 (fun q3 H hI => ?_)
  have hI : Wi (dC, dI) clA [(h, .inr (0, [.ref q1, .ref q2, .null, .null, .int 0, .int 0, .int 0, .int 0, .int 0, .int 0])), (q1, .inr (1, [.ref k1, .ref k2, .ref k3, .int 0])), (k1, .inl (cI, 4, .inl fun _ => 0)), (k2, .inl (cI, 4, .inl fun _ => 0)), (k3, .inl (cI, 16, .inl fun _ => 0)), (q2, .inr (2, [.ref m1, .ref m2, .ref m3, .ref m4, .ref m5, .ref m6, .int 0, .int 0])), (m1, .inl (cI, 6, .inl fun _ => 0)), (m2, .inl (cI, 6, .inl fun _ => 0)), (m3, .inl (cI, 72, .inl fun _ => 0)), (m4, .inl (cI, 72, .inl fun _ => 0)), (m5, .inl (cI, 72, .inl fun _ => 0)), (m6, .inl (cI, 72, .inl fun _ => 0)), (q3, .inr (3, [.int 0, .int 0, .null, .null, .null, .int 0, .int 0, .int 0, .int 0, .int 0, .int 0, .int 0, .int 0, .int 0, .int 0]))] s A H _ := hI
  refine lv_dup hx hb d_Mach_init_30 rfl ?_
  refine lv_bipush (v := 24) hx hb d_Mach_init_31 (by decide) ?_
  refine lv_bipush (v := 120) hx hb d_Mach_init_33 (by decide) ?_
  refine lv_iload_n hx hb d_Mach_init_35 rfl (lv_at hl 1 rfl) ?_
  refine mk_Mach_25 C hl.1 (Nat.le_of_ble_eq_true rfl) (Nat.le_of_ble_eq_true rfl) ⟨Nat.le_of_ble_eq_true rfl, Nat.le_of_ble_eq_true rfl⟩ d_Mach_init_36 ?_
  refine mk_Mach_31 C hl.1 (Nat.le_of_ble_eq_true rfl) (Nat.le_of_ble_eq_true rfl) ⟨Nat.le_of_ble_eq_true rfl, Nat.le_of_ble_eq_true rfl⟩ d_Mach_init_39 ?_
  refine lv_iconst (v := 1) hx hb d_Mach_init_42 (by decide) ?_
  refine lv_bipush (v := 8) hx hb d_Mach_init_43 (by decide) ?_
  refine lv_iload_n hx hb d_Mach_init_45 rfl (lv_at hl 2 rfl) ?_
  refine mk_Mach_25 C hl.1 (Nat.le_of_ble_eq_true rfl) (Nat.le_of_ble_eq_true rfl) ⟨Nat.le_of_ble_eq_true rfl, Nat.le_of_ble_eq_true rfl⟩ d_Mach_init_46 ?_
  refine mk_Mach_31 C hl.1 (Nat.le_of_ble_eq_true rfl) (Nat.le_of_ble_eq_true rfl) ⟨Nat.le_of_ble_eq_true rfl, Nat.le_of_ble_eq_true rfl⟩ d_Mach_init_49 ?_
  refine rb_callK sxok sxok C.2.2.2.2.2.2.2.1 C (c_Room_init (h := q3) (x1 := lmt x1) (x2 := pce x2) (L := 2 * n) hn2 hN2 (by omega)) ck_Mach_34 ⟨Nat.le_of_ble_eq_true rfl, Nat.le_of_ble_eq_true rfl⟩ ⟨rfl, rfl⟩ [12] [0, 1, 2, 3, 4, 5, 6, 7, 8, 9, 10, 11] (wr := [(h, .inr (0, [.ref q1, .ref q2, .null, .null, .int 0, .int 0, .int 0, .int 0, .int 0, .int 0])), (q1, .inr (1, [.ref k1, .ref k2, .ref k3, .int 0])), (k1, .inl (cI, 4, .inl fun _ => 0)), (k2, .inl (cI, 4, .inl fun _ => 0)), (k3, .inl (cI, 16, .inl fun _ => 0)), (q2, .inr (2, [.ref m1, .ref m2, .ref m3, .ref m4, .ref m5, .ref m6, .int 0, .int 0])), (m1, .inl (cI, 6, .inl fun _ => 0)), (m2, .inl (cI, 6, .inl fun _ => 0)), (m3, .inl (cI, 72, .inl fun _ => 0)), (m4, .inl (cI, 72, .inl fun _ => 0)), (m5, .inl (cI, 72, .inl fun _ => 0)), (m6, .inl (cI, 72, .inl fun _ => 0))]) rfl rfl rfl (by decide) (by decide) (by decide) hI ⟨Nat.le_of_ble_eq_true rfl, (by show 0 + 4 + 24 + 8 + 300 + 15 + 3 * (2 * n) ≤ 1100; omega)⟩ (As := [.int (if (24 : Int32) < (if x1 < (120 : Int32) then x1 else 120) then (if x1 < (120 : Int32) then x1 else 120) else 24), .int (if (1 : Int32) < (if x2 < (8 : Int32) then x2 else 8) then (if x2 < (8 : Int32) then x2 else 8) else 1)]) rfl hl.1 (rest := [.ref q3, .ref h]) (Nat.le_of_ble_eq_true rfl) rfl d_Mach_init_52 (fun u H locs hu hI => ?_)
  obtain ⟨r1, r2, r3, rfl⟩ := hu
  have hI : Wi (dC, dI) clA [(h, .inr (0, [.ref q1, .ref q2, .null, .null, .int 0, .int 0, .int 0, .int 0, .int 0, .int 0])), (q1, .inr (1, [.ref k1, .ref k2, .ref k3, .int 0])), (k1, .inl (cI, 4, .inl fun _ => 0)), (k2, .inl (cI, 4, .inl fun _ => 0)), (k3, .inl (cI, 16, .inl fun _ => 0)), (q2, .inr (2, [.ref m1, .ref m2, .ref m3, .ref m4, .ref m5, .ref m6, .int 0, .int 0])), (m1, .inl (cI, 6, .inl fun _ => 0)), (m2, .inl (cI, 6, .inl fun _ => 0)), (m3, .inl (cI, 72, .inl fun _ => 0)), (m4, .inl (cI, 72, .inl fun _ => 0)), (m5, .inl (cI, 72, .inl fun _ => 0)), (m6, .inl (cI, 72, .inl fun _ => 0)), (q3, .inr (3, [.int (lmt x1), .int (pce x2), .ref r1, .ref r2, .ref r3, .int (-1), .int 0, .int 0, .int 0, .int 0, .int 0, .int 0, .int 0, .int 0, .int 0])), (r1, .inl (cI, (2 * n), .inl fun _ => 0)), (r2, .inl (cI, (2 * n), .inl fun _ => 0)), (r3, .inl (cI, (2 * n), .inl fun _ => 0))] s A H _ := hI
  refine rb_pF C hI (ty := .object "ReadBarrierMachine$Room") (w' := [(h, .inr (0, [.ref q1, .ref q2, .ref q3, .null, .int 0, .int 0, .int 0, .int 0, .int 0, .int 0])), (q1, .inr (1, [.ref k1, .ref k2, .ref k3, .int 0])), (k1, .inl (cI, 4, .inl fun _ => 0)), (k2, .inl (cI, 4, .inl fun _ => 0)), (k3, .inl (cI, 16, .inl fun _ => 0)), (q2, .inr (2, [.ref m1, .ref m2, .ref m3, .ref m4, .ref m5, .ref m6, .int 0, .int 0])), (m1, .inl (cI, 6, .inl fun _ => 0)), (m2, .inl (cI, 6, .inl fun _ => 0)), (m3, .inl (cI, 72, .inl fun _ => 0)), (m4, .inl (cI, 72, .inl fun _ => 0)), (m5, .inl (cI, 72, .inl fun _ => 0)), (m6, .inl (cI, 72, .inl fun _ => 0)), (q3, .inr (3, [.int (lmt x1), .int (pce x2), .ref r1, .ref r2, .ref r3, .int (-1), .int 0, .int 0, .int 0, .int 0, .int 0, .int 0, .int 0, .int 0, .int 0])), (r1, .inl (cI, (2 * n), .inl fun _ => 0)), (r2, .inl (cI, (2 * n), .inl fun _ => 0)), (r3, .inl (cI, (2 * n), .inl fun _ => 0))]) in_Mach t_Mach t_Mach_ok n_Mach 0 rfl rfl 2 (by decide) tm_137 rfl hnm rfl (by decide +kernel) rfl rfl (Nat.le_of_ble_eq_true rfl) d_Mach_init_55 rfl (fun H locs hI => ?_)
  refine lv_aload_n hx hb d_Mach_init_58 rfl (lv_at hl 0 rfl) ?_
  refine lv_bipush (v := 8) hx hb d_Mach_init_59 (by decide) ?_
  refine rb_newI C hI tm_35 0 (cA := cI) rfl (N := 8) (by decide) rfl (by decide) (Nat.le_of_ble_eq_true rfl) (by show 0 + 4 + 24 + 8 + 300 + 15 + (3 * (2 * n)) + 8 ≤ 1100; omega) d_Mach_init_61 (fun q4 H hI => ?_)
  have hI : Wi (dC, dI) clA [(h, .inr (0, [.ref q1, .ref q2, .ref q3, .null, .int 0, .int 0, .int 0, .int 0, .int 0, .int 0])), (q1, .inr (1, [.ref k1, .ref k2, .ref k3, .int 0])), (k1, .inl (cI, 4, .inl fun _ => 0)), (k2, .inl (cI, 4, .inl fun _ => 0)), (k3, .inl (cI, 16, .inl fun _ => 0)), (q2, .inr (2, [.ref m1, .ref m2, .ref m3, .ref m4, .ref m5, .ref m6, .int 0, .int 0])), (m1, .inl (cI, 6, .inl fun _ => 0)), (m2, .inl (cI, 6, .inl fun _ => 0)), (m3, .inl (cI, 72, .inl fun _ => 0)), (m4, .inl (cI, 72, .inl fun _ => 0)), (m5, .inl (cI, 72, .inl fun _ => 0)), (m6, .inl (cI, 72, .inl fun _ => 0)), (q3, .inr (3, [.int (lmt x1), .int (pce x2), .ref r1, .ref r2, .ref r3, .int (-1), .int 0, .int 0, .int 0, .int 0, .int 0, .int 0, .int 0, .int 0, .int 0])), (r1, .inl (cI, (2 * n), .inl fun _ => 0)), (r2, .inl (cI, (2 * n), .inl fun _ => 0)), (r3, .inl (cI, (2 * n), .inl fun _ => 0)), (q4, .inl (cI, 8, .inl fun _ => 0))] s A H _ := hI
  refine rb_pF C hI (ty := .array .int) (w' := [(h, .inr (0, [.ref q1, .ref q2, .ref q3, .ref q4, .int 0, .int 0, .int 0, .int 0, .int 0, .int 0])), (q1, .inr (1, [.ref k1, .ref k2, .ref k3, .int 0])), (k1, .inl (cI, 4, .inl fun _ => 0)), (k2, .inl (cI, 4, .inl fun _ => 0)), (k3, .inl (cI, 16, .inl fun _ => 0)), (q2, .inr (2, [.ref m1, .ref m2, .ref m3, .ref m4, .ref m5, .ref m6, .int 0, .int 0])), (m1, .inl (cI, 6, .inl fun _ => 0)), (m2, .inl (cI, 6, .inl fun _ => 0)), (m3, .inl (cI, 72, .inl fun _ => 0)), (m4, .inl (cI, 72, .inl fun _ => 0)), (m5, .inl (cI, 72, .inl fun _ => 0)), (m6, .inl (cI, 72, .inl fun _ => 0)), (q3, .inr (3, [.int (lmt x1), .int (pce x2), .ref r1, .ref r2, .ref r3, .int (-1), .int 0, .int 0, .int 0, .int 0, .int 0, .int 0, .int 0, .int 0, .int 0])), (r1, .inl (cI, (2 * n), .inl fun _ => 0)), (r2, .inl (cI, (2 * n), .inl fun _ => 0)), (r3, .inl (cI, (2 * n), .inl fun _ => 0)), (q4, .inl (cI, 8, .inl fun _ => 0))]) in_Mach t_Mach t_Mach_ok n_Mach 0 rfl rfl 3 (by decide) tm_138 rfl hnm rfl (by decide +kernel) rfl rfl (Nat.le_of_ble_eq_true rfl) d_Mach_init_63 rfl (fun H locs hI => ?_)
  refine lv_aload_n hx hb d_Mach_init_66 rfl (lv_at hl 0 rfl) ?_
  refine lv_iconst (v := 4) hx hb d_Mach_init_67 (by decide) ?_
  refine rb_pN C hI (ty := .int) (w' := [(h, .inr (0, [.ref q1, .ref q2, .ref q3, .ref q4, .int 0, .int 4, .int 0, .int 0, .int 0, .int 0])), (q1, .inr (1, [.ref k1, .ref k2, .ref k3, .int 0])), (k1, .inl (cI, 4, .inl fun _ => 0)), (k2, .inl (cI, 4, .inl fun _ => 0)), (k3, .inl (cI, 16, .inl fun _ => 0)), (q2, .inr (2, [.ref m1, .ref m2, .ref m3, .ref m4, .ref m5, .ref m6, .int 0, .int 0])), (m1, .inl (cI, 6, .inl fun _ => 0)), (m2, .inl (cI, 6, .inl fun _ => 0)), (m3, .inl (cI, 72, .inl fun _ => 0)), (m4, .inl (cI, 72, .inl fun _ => 0)), (m5, .inl (cI, 72, .inl fun _ => 0)), (m6, .inl (cI, 72, .inl fun _ => 0)), (q3, .inr (3, [.int (lmt x1), .int (pce x2), .ref r1, .ref r2, .ref r3, .int (-1), .int 0, .int 0, .int 0, .int 0, .int 0, .int 0, .int 0, .int 0, .int 0])), (r1, .inl (cI, (2 * n), .inl fun _ => 0)), (r2, .inl (cI, (2 * n), .inl fun _ => 0)), (r3, .inl (cI, (2 * n), .inl fun _ => 0)), (q4, .inl (cI, 8, .inl fun _ => 0))]) in_Mach t_Mach t_Mach_ok n_Mach 0 rfl rfl 5 (by decide) tm_140 rfl rfl (by decide +kernel) rfl rfl (Nat.le_of_ble_eq_true rfl) d_Mach_init_68 rfl (fun H locs hI => ?_)
  refine W.widen (k := 16) (n := 1100) (by show 0 + 1 + 3 + 1 + 6 + 1 + 3 + 1 ≤ 16; omega) (by show 0 + 4 + 24 + 8 + 300 + 15 + (3 * (2 * n)) + 8 ≤ 1100; omega) ?_
  have hI2 : Wi (dC, dI) clA (wX (fun i => ([h, q1, q2, q3, q4, k1, k2, k3, m1, m2, m3, m4, m5, m6, r1, r2, r3] : List Nat).getD i 0) cI (2 * n) (sg0 x1 x2)) s A H locs := ⟨hI.1.sub [0, 1, 5, 12, 16, 2, 3, 4, 6, 7, 8, 9, 10, 11, 13, 14, 15] rfl, hI.2.1.sub [0, 1, 5, 12, 16, 2, 3, 4, 6, 7, 8, 9, 10, 11, 13, 14, 15] (by decide) rfl, hI.2.2⟩
  exact rb_retN C hr hI2 ⟨(fun i => ([h, q1, q2, q3, q4, k1, k2, k3, m1, m2, m3, m4, m5, m6, r1, r2, r3] : List Nat).getD i 0), n, rfl, hn0, hn1, hn3, rfl⟩ d_Mach_init_71
def lmm (x : Int32) : Int32 := if (24 : Int32) ≤ x then (if x ≤ (120 : Int32) then x else 120) else 24
def pcm (x : Int32) : Int32 := if (1 : Int32) ≤ x then (if x ≤ (8 : Int32) then x else 8) else 1
def sg1 (x1 x2 : Int32) : St := (upd (upd (upd (fun _ => 0) 12 4) 0 (lmm x1)) 1 (pcm x2), fun _ _ => 0)
abbrev rm_Mod_init : Room := { frames := 1, cells := 15, slots := 3572, locals := 14 }
theorem d_Mod_init_0 : decode b_Mod_init 0 = .ok (.aload_n 0, 1) := by decide +kernel
theorem d_Mod_init_1 : decode b_Mod_init 1 = .ok (.invokespecial 1, 3) := by decide +kernel
theorem d_Mod_init_4 : decode b_Mod_init 4 = .ok (.aload_n 0, 1) := by decide +kernel
theorem d_Mod_init_5 : decode b_Mod_init 5 = .ok (.iconst 4, 1) := by decide +kernel
theorem d_Mod_init_6 : decode b_Mod_init 6 = .ok (.newarray .int, 2) := by decide +kernel
theorem d_Mod_init_8 : decode b_Mod_init 8 = .ok (.putfield 7, 3) := by decide +kernel
theorem d_Mod_init_11 : decode b_Mod_init 11 = .ok (.aload_n 0, 1) := by decide +kernel
theorem d_Mod_init_12 : decode b_Mod_init 12 = .ok (.iconst 4, 1) := by decide +kernel
theorem d_Mod_init_13 : decode b_Mod_init 13 = .ok (.newarray .int, 2) := by decide +kernel
theorem d_Mod_init_15 : decode b_Mod_init 15 = .ok (.putfield 13, 3) := by decide +kernel
theorem d_Mod_init_18 : decode b_Mod_init 18 = .ok (.aload_n 0, 1) := by decide +kernel
theorem d_Mod_init_19 : decode b_Mod_init 19 = .ok (.bipush 16, 2) := by decide +kernel
theorem d_Mod_init_21 : decode b_Mod_init 21 = .ok (.newarray .int, 2) := by decide +kernel
theorem d_Mod_init_23 : decode b_Mod_init 23 = .ok (.putfield 16, 3) := by decide +kernel
theorem d_Mod_init_26 : decode b_Mod_init 26 = .ok (.aload_n 0, 1) := by decide +kernel
theorem d_Mod_init_27 : decode b_Mod_init 27 = .ok (.bipush 6, 2) := by decide +kernel
theorem d_Mod_init_29 : decode b_Mod_init 29 = .ok (.newarray .int, 2) := by decide +kernel
theorem d_Mod_init_31 : decode b_Mod_init 31 = .ok (.putfield 19, 3) := by decide +kernel
theorem d_Mod_init_34 : decode b_Mod_init 34 = .ok (.aload_n 0, 1) := by decide +kernel
theorem d_Mod_init_35 : decode b_Mod_init 35 = .ok (.bipush 6, 2) := by decide +kernel
theorem d_Mod_init_37 : decode b_Mod_init 37 = .ok (.newarray .int, 2) := by decide +kernel
theorem d_Mod_init_39 : decode b_Mod_init 39 = .ok (.putfield 22, 3) := by decide +kernel
theorem d_Mod_init_42 : decode b_Mod_init 42 = .ok (.aload_n 0, 1) := by decide +kernel
theorem d_Mod_init_43 : decode b_Mod_init 43 = .ok (.sipush 288, 3) := by decide +kernel
theorem d_Mod_init_46 : decode b_Mod_init 46 = .ok (.newarray .int, 2) := by decide +kernel
theorem d_Mod_init_48 : decode b_Mod_init 48 = .ok (.putfield 25, 3) := by decide +kernel
theorem d_Mod_init_51 : decode b_Mod_init 51 = .ok (.aload_n 0, 1) := by decide +kernel
theorem d_Mod_init_52 : decode b_Mod_init 52 = .ok (.sipush 240, 3) := by decide +kernel
theorem d_Mod_init_55 : decode b_Mod_init 55 = .ok (.newarray .int, 2) := by decide +kernel
theorem d_Mod_init_57 : decode b_Mod_init 57 = .ok (.putfield 28, 3) := by decide +kernel
theorem d_Mod_init_60 : decode b_Mod_init 60 = .ok (.aload_n 0, 1) := by decide +kernel
theorem d_Mod_init_61 : decode b_Mod_init 61 = .ok (.sipush 240, 3) := by decide +kernel
theorem d_Mod_init_64 : decode b_Mod_init 64 = .ok (.newarray .int, 2) := by decide +kernel
theorem d_Mod_init_66 : decode b_Mod_init 66 = .ok (.putfield 31, 3) := by decide +kernel
theorem d_Mod_init_69 : decode b_Mod_init 69 = .ok (.aload_n 0, 1) := by decide +kernel
theorem d_Mod_init_70 : decode b_Mod_init 70 = .ok (.sipush 240, 3) := by decide +kernel
theorem d_Mod_init_73 : decode b_Mod_init 73 = .ok (.newarray .int, 2) := by decide +kernel
theorem d_Mod_init_75 : decode b_Mod_init 75 = .ok (.putfield 34, 3) := by decide +kernel
theorem d_Mod_init_78 : decode b_Mod_init 78 = .ok (.aload_n 0, 1) := by decide +kernel
theorem d_Mod_init_79 : decode b_Mod_init 79 = .ok (.sipush 960, 3) := by decide +kernel
theorem d_Mod_init_82 : decode b_Mod_init 82 = .ok (.newarray .int, 2) := by decide +kernel
theorem d_Mod_init_84 : decode b_Mod_init 84 = .ok (.putfield 37, 3) := by decide +kernel
theorem d_Mod_init_87 : decode b_Mod_init 87 = .ok (.aload_n 0, 1) := by decide +kernel
theorem d_Mod_init_88 : decode b_Mod_init 88 = .ok (.sipush 960, 3) := by decide +kernel
theorem d_Mod_init_91 : decode b_Mod_init 91 = .ok (.newarray .int, 2) := by decide +kernel
theorem d_Mod_init_93 : decode b_Mod_init 93 = .ok (.putfield 40, 3) := by decide +kernel
theorem d_Mod_init_96 : decode b_Mod_init 96 = .ok (.aload_n 0, 1) := by decide +kernel
theorem d_Mod_init_97 : decode b_Mod_init 97 = .ok (.bipush 120, 2) := by decide +kernel
theorem d_Mod_init_99 : decode b_Mod_init 99 = .ok (.newarray .int, 2) := by decide +kernel
theorem d_Mod_init_101 : decode b_Mod_init 101 = .ok (.putfield 43, 3) := by decide +kernel
theorem d_Mod_init_104 : decode b_Mod_init 104 = .ok (.aload_n 0, 1) := by decide +kernel
theorem d_Mod_init_105 : decode b_Mod_init 105 = .ok (.sipush 240, 3) := by decide +kernel
theorem d_Mod_init_108 : decode b_Mod_init 108 = .ok (.newarray .int, 2) := by decide +kernel
theorem d_Mod_init_110 : decode b_Mod_init 110 = .ok (.putfield 46, 3) := by decide +kernel
theorem d_Mod_init_113 : decode b_Mod_init 113 = .ok (.aload_n 0, 1) := by decide +kernel
theorem d_Mod_init_114 : decode b_Mod_init 114 = .ok (.sipush 240, 3) := by decide +kernel
theorem d_Mod_init_117 : decode b_Mod_init 117 = .ok (.newarray .boolean, 2) := by decide +kernel
theorem d_Mod_init_119 : decode b_Mod_init 119 = .ok (.putfield 49, 3) := by decide +kernel
theorem d_Mod_init_122 : decode b_Mod_init 122 = .ok (.aload_n 0, 1) := by decide +kernel
theorem d_Mod_init_123 : decode b_Mod_init 123 = .ok (.iconst 4, 1) := by decide +kernel
theorem d_Mod_init_124 : decode b_Mod_init 124 = .ok (.putfield 53, 3) := by decide +kernel
theorem d_Mod_init_127 : decode b_Mod_init 127 = .ok (.aload_n 0, 1) := by decide +kernel
theorem d_Mod_init_128 : decode b_Mod_init 128 = .ok (.bipush 8, 2) := by decide +kernel
theorem d_Mod_init_130 : decode b_Mod_init 130 = .ok (.newarray .int, 2) := by decide +kernel
theorem d_Mod_init_132 : decode b_Mod_init 132 = .ok (.putfield 57, 3) := by decide +kernel
theorem d_Mod_init_135 : decode b_Mod_init 135 = .ok (.aload_n 0, 1) := by decide +kernel
theorem d_Mod_init_136 : decode b_Mod_init 136 = .ok (.iload_n 1, 1) := by decide +kernel
theorem d_Mod_init_137 : decode b_Mod_init 137 = .ok (.bipush 24, 2) := by decide +kernel
theorem d_Mod_init_139 : decode b_Mod_init 139 = .ok (.if_icmp .ge 8, 3) := by decide +kernel
theorem d_Mod_init_142 : decode b_Mod_init 142 = .ok (.bipush 24, 2) := by decide +kernel
theorem d_Mod_init_144 : decode b_Mod_init 144 = .ok (.goto 15, 3) := by decide +kernel
theorem d_Mod_init_147 : decode b_Mod_init 147 = .ok (.iload_n 1, 1) := by decide +kernel
theorem d_Mod_init_148 : decode b_Mod_init 148 = .ok (.bipush 120, 2) := by decide +kernel
theorem d_Mod_init_150 : decode b_Mod_init 150 = .ok (.if_icmp .le 8, 3) := by decide +kernel
theorem d_Mod_init_153 : decode b_Mod_init 153 = .ok (.bipush 120, 2) := by decide +kernel
theorem d_Mod_init_155 : decode b_Mod_init 155 = .ok (.goto 4, 3) := by decide +kernel
theorem d_Mod_init_158 : decode b_Mod_init 158 = .ok (.iload_n 1, 1) := by decide +kernel
theorem d_Mod_init_159 : decode b_Mod_init 159 = .ok (.putfield 60, 3) := by decide +kernel
theorem d_Mod_init_162 : decode b_Mod_init 162 = .ok (.aload_n 0, 1) := by decide +kernel
theorem d_Mod_init_163 : decode b_Mod_init 163 = .ok (.iload_n 2, 1) := by decide +kernel
theorem d_Mod_init_164 : decode b_Mod_init 164 = .ok (.iconst 1, 1) := by decide +kernel
theorem d_Mod_init_165 : decode b_Mod_init 165 = .ok (.if_icmp .ge 7, 3) := by decide +kernel
theorem d_Mod_init_168 : decode b_Mod_init 168 = .ok (.iconst 1, 1) := by decide +kernel
theorem d_Mod_init_169 : decode b_Mod_init 169 = .ok (.goto 15, 3) := by decide +kernel
theorem d_Mod_init_172 : decode b_Mod_init 172 = .ok (.iload_n 2, 1) := by decide +kernel
theorem d_Mod_init_173 : decode b_Mod_init 173 = .ok (.bipush 8, 2) := by decide +kernel
theorem d_Mod_init_175 : decode b_Mod_init 175 = .ok (.if_icmp .le 8, 3) := by decide +kernel
theorem d_Mod_init_178 : decode b_Mod_init 178 = .ok (.bipush 8, 2) := by decide +kernel
theorem d_Mod_init_180 : decode b_Mod_init 180 = .ok (.goto 4, 3) := by decide +kernel
theorem d_Mod_init_183 : decode b_Mod_init 183 = .ok (.iload_n 2, 1) := by decide +kernel
theorem d_Mod_init_184 : decode b_Mod_init 184 = .ok (.putfield 63, 3) := by decide +kernel
theorem d_Mod_init_187 : decode b_Mod_init 187 = .ok (.return_, 1) := by decide +kernel
set_option maxHeartbeats 4000000 in
set_option maxRecDepth 100000 in
theorem c_Mod_init {l : Launch} {dC : Nat → ClassId} {dI : Nat → Nat → Nat} {cI cZ : ClassId} {h : Nat} {x1 x2 : Int32} : CN l (dC, dI) clA (tyM cI cZ) SXm [(h, .inr (4, [.int 0, .int 0, .int 0, .null, .null, .null, .int 0, .int 0, .null, .null, .null, .null, .null, .null, .null, .null, .int 0, .null, .int 0, .int 0, .int 0, .null, .null, .int 0, .int 0, .int 0, .int 0, .int 0, .int 0, .int 0, .null, .int 0, .int 0]))] (fun u => ∃ a : Nat → Nat, a 0 = h ∧ u = wM a cI cZ (sg1 x1 x2)) y_Mod_init b_Mod_init 3 rm_Mod_init [.ref h, .int x1, .int x2] 15 3572 := by
  refine CN_of (by decide) rfl (Nat.le_of_ble_eq_true rfl) ?_
  intro pr e s m below meth c A ls C hr hnm hl hI
  have hx := C.1
  have hb := C.2.1
  have hl : lv_has ls 3 [(0, .ref h), (1, .int x1), (2, .int x2)] := hl
  refine lv_aload_n hx hb d_Mod_init_0 rfl (lv_at hl 0 rfl) ?_
  refine rb_oinit C tm_529 tm_14 tm_15 hl.1 d_Mod_init_1 (Nat.le_of_ble_eq_true rfl) (Nat.le_of_ble_eq_true rfl) ?_
  refine lv_aload_n hx hb d_Mod_init_4 rfl (lv_at hl 0 rfl) ?_
  refine lv_iconst (v := 4) hx hb d_Mod_init_5 (by decide) ?_
  refine rb_newI C hI tm_35 0 (cA := cI) rfl (N := 4) (by decide) rfl (by decide) (Nat.le_of_ble_eq_true rfl) (by show 0 + 4 ≤ 3572; omega) d_Mod_init_6 (fun q1 H hI => ?_)
  have hI : Wi (dC, dI) clA [(h, .inr (4, [.int 0, .int 0, .int 0, .null, .null, .null, .int 0, .int 0, .null, .null, .null, .null, .null, .null, .null, .null, .int 0, .null, .int 0, .int 0, .int 0, .null, .null, .int 0, .int 0, .int 0, .int 0, .int 0, .int 0, .int 0, .null, .int 0, .int 0])), (q1, .inl (cI, 4, .inl fun _ => 0))] s A H _ := hI
  refine rb_pF C hI (ty := .array .int) (w' := [(h, .inr (4, [.int 0, .int 0, .int 0, .ref q1, .null, .null, .int 0, .int 0, .null, .null, .null, .null, .null, .null, .null, .null, .int 0, .null, .int 0, .int 0, .int 0, .null, .null, .int 0, .int 0, .int 0, .int 0, .int 0, .int 0, .int 0, .null, .int 0, .int 0])), (q1, .inl (cI, 4, .inl fun _ => 0))]) in_Mod t_Mod t_Mod_ok n_Mod 0 rfl rfl 3 (by decide) tm_533 rfl hnm rfl (by decide +kernel) rfl rfl (Nat.le_of_ble_eq_true rfl) d_Mod_init_8 rfl (fun H locs hI => ?_)
  refine lv_aload_n hx hb d_Mod_init_11 rfl (lv_at hl 0 rfl) ?_
  refine lv_iconst (v := 4) hx hb d_Mod_init_12 (by decide) ?_
  refine rb_newI C hI tm_35 0 (cA := cI) rfl (N := 4) (by decide) rfl (by decide) (Nat.le_of_ble_eq_true rfl) (by show 0 + 4 + 4 ≤ 3572; omega) d_Mod_init_13 (fun q2 H hI => ?_)
  have hI : Wi (dC, dI) clA [(h, .inr (4, [.int 0, .int 0, .int 0, .ref q1, .null, .null, .int 0, .int 0, .null, .null, .null, .null, .null, .null, .null, .null, .int 0, .null, .int 0, .int 0, .int 0, .null, .null, .int 0, .int 0, .int 0, .int 0, .int 0, .int 0, .int 0, .null, .int 0, .int 0])), (q1, .inl (cI, 4, .inl fun _ => 0)), (q2, .inl (cI, 4, .inl fun _ => 0))] s A H _ := hI
  refine rb_pF C hI (ty := .array .int) (w' := [(h, .inr (4, [.int 0, .int 0, .int 0, .ref q1, .ref q2, .null, .int 0, .int 0, .null, .null, .null, .null, .null, .null, .null, .null, .int 0, .null, .int 0, .int 0, .int 0, .null, .null, .int 0, .int 0, .int 0, .int 0, .int 0, .int 0, .int 0, .null, .int 0, .int 0])), (q1, .inl (cI, 4, .inl fun _ => 0)), (q2, .inl (cI, 4, .inl fun _ => 0))]) in_Mod t_Mod t_Mod_ok n_Mod 0 rfl rfl 4 (by decide) tm_534 rfl hnm rfl (by decide +kernel) rfl rfl (Nat.le_of_ble_eq_true rfl) d_Mod_init_15 rfl (fun H locs hI => ?_)
  refine lv_aload_n hx hb d_Mod_init_18 rfl (lv_at hl 0 rfl) ?_
  refine lv_bipush (v := 16) hx hb d_Mod_init_19 (by decide) ?_
  refine rb_newI C hI tm_35 0 (cA := cI) rfl (N := 16) (by decide) rfl (by decide) (Nat.le_of_ble_eq_true rfl) (by show 0 + 4 + 4 + 16 ≤ 3572; omega) d_Mod_init_21 (fun q3 H hI => ?_)
  have hI : Wi (dC, dI) clA [(h, .inr (4, [.int 0, .int 0, .int 0, .ref q1, .ref q2, .null, .int 0, .int 0, .null, .null, .null, .null, .null, .null, .null, .null, .int 0, .null, .int 0, .int 0, .int 0, .null, .null, .int 0, .int 0, .int 0, .int 0, .int 0, .int 0, .int 0, .null, .int 0, .int 0])), (q1, .inl (cI, 4, .inl fun _ => 0)), (q2, .inl (cI, 4, .inl fun _ => 0)), (q3, .inl (cI, 16, .inl fun _ => 0))] s A H _ := hI
  refine rb_pF C hI (ty := .array .int) (w' := [(h, .inr (4, [.int 0, .int 0, .int 0, .ref q1, .ref q2, .ref q3, .int 0, .int 0, .null, .null, .null, .null, .null, .null, .null, .null, .int 0, .null, .int 0, .int 0, .int 0, .null, .null, .int 0, .int 0, .int 0, .int 0, .int 0, .int 0, .int 0, .null, .int 0, .int 0])), (q1, .inl (cI, 4, .inl fun _ => 0)), (q2, .inl (cI, 4, .inl fun _ => 0)), (q3, .inl (cI, 16, .inl fun _ => 0))]) in_Mod t_Mod t_Mod_ok n_Mod 0 rfl rfl 5 (by decide) tm_535 rfl hnm rfl (by decide +kernel) rfl rfl (Nat.le_of_ble_eq_true rfl) d_Mod_init_23 rfl (fun H locs hI => ?_)
  refine lv_aload_n hx hb d_Mod_init_26 rfl (lv_at hl 0 rfl) ?_
  refine lv_bipush (v := 6) hx hb d_Mod_init_27 (by decide) ?_
  refine rb_newI C hI tm_35 0 (cA := cI) rfl (N := 6) (by decide) rfl (by decide) (Nat.le_of_ble_eq_true rfl) (by show 0 + 4 + 4 + 16 + 6 ≤ 3572; omega) d_Mod_init_29 (fun q4 H hI => ?_)
  have hI : Wi (dC, dI) clA [(h, .inr (4, [.int 0, .int 0, .int 0, .ref q1, .ref q2, .ref q3, .int 0, .int 0, .null, .null, .null, .null, .null, .null, .null, .null, .int 0, .null, .int 0, .int 0, .int 0, .null, .null, .int 0, .int 0, .int 0, .int 0, .int 0, .int 0, .int 0, .null, .int 0, .int 0])), (q1, .inl (cI, 4, .inl fun _ => 0)), (q2, .inl (cI, 4, .inl fun _ => 0)), (q3, .inl (cI, 16, .inl fun _ => 0)), (q4, .inl (cI, 6, .inl fun _ => 0))] s A H _ := hI
  refine rb_pF C hI (ty := .array .int) (w' := [(h, .inr (4, [.int 0, .int 0, .int 0, .ref q1, .ref q2, .ref q3, .int 0, .int 0, .ref q4, .null, .null, .null, .null, .null, .null, .null, .int 0, .null, .int 0, .int 0, .int 0, .null, .null, .int 0, .int 0, .int 0, .int 0, .int 0, .int 0, .int 0, .null, .int 0, .int 0])), (q1, .inl (cI, 4, .inl fun _ => 0)), (q2, .inl (cI, 4, .inl fun _ => 0)), (q3, .inl (cI, 16, .inl fun _ => 0)), (q4, .inl (cI, 6, .inl fun _ => 0))]) in_Mod t_Mod t_Mod_ok n_Mod 0 rfl rfl 8 (by decide) tm_538 rfl hnm rfl (by decide +kernel) rfl rfl (Nat.le_of_ble_eq_true rfl) d_Mod_init_31 rfl (fun H locs hI => ?_)
  refine lv_aload_n hx hb d_Mod_init_34 rfl (lv_at hl 0 rfl) ?_
  refine lv_bipush (v := 6) hx hb d_Mod_init_35 (by decide) ?_
  refine rb_newI C hI tm_35 0 (cA := cI) rfl (N := 6) (by decide) rfl (by decide) (Nat.le_of_ble_eq_true rfl) (by show 0 + 4 + 4 + 16 + 6 + 6 ≤ 3572; omega) d_Mod_init_37 (fun q5 H hI => ?_)
  have hI : Wi (dC, dI) clA [(h, .inr (4, [.int 0, .int 0, .int 0, .ref q1, .ref q2, .ref q3, .int 0, .int 0, .ref q4, .null, .null, .null, .null, .null, .null, .null, .int 0, .null, .int 0, .int 0, .int 0, .null, .null, .int 0, .int 0, .int 0, .int 0, .int 0, .int 0, .int 0, .null, .int 0, .int 0])), (q1, .inl (cI, 4, .inl fun _ => 0)), (q2, .inl (cI, 4, .inl fun _ => 0)), (q3, .inl (cI, 16, .inl fun _ => 0)), (q4, .inl (cI, 6, .inl fun _ => 0)), (q5, .inl (cI, 6, .inl fun _ => 0))] s A H _ := hI
  refine rb_pF C hI (ty := .array .int) (w' := [(h, .inr (4, [.int 0, .int 0, .int 0, .ref q1, .ref q2, .ref q3, .int 0, .int 0, .ref q4, .ref q5, .null, .null, .null, .null, .null, .null, .int 0, .null, .int 0, .int 0, .int 0, .null, .null, .int 0, .int 0, .int 0, .int 0, .int 0, .int 0, .int 0, .null, .int 0, .int 0])), (q1, .inl (cI, 4, .inl fun _ => 0)), (q2, .inl (cI, 4, .inl fun _ => 0)), (q3, .inl (cI, 16, .inl fun _ => 0)), (q4, .inl (cI, 6, .inl fun _ => 0)), (q5, .inl (cI, 6, .inl fun _ => 0))]) in_Mod t_Mod t_Mod_ok n_Mod 0 rfl rfl 9 (by decide) tm_539 rfl hnm rfl (by decide +kernel) rfl rfl (Nat.le_of_ble_eq_true rfl) d_Mod_init_39 rfl (fun H locs hI => ?_)
  refine lv_aload_n hx hb d_Mod_init_42 rfl (lv_at hl 0 rfl) ?_
  refine lv_sipush (v := 288) hx hb d_Mod_init_43 (by decide) ?_
  refine rb_newI C hI tm_35 0 (cA := cI) rfl (N := 288) (by decide) rfl (by decide) (Nat.le_of_ble_eq_true rfl) (by show 0 + 4 + 4 + 16 + 6 + 6 + 288 ≤ 3572; omega) d_Mod_init_46 (fun q6 H hI => ?_)
  have hI : Wi (dC, dI) clA [(h, .inr (4, [.int 0, .int 0, .int 0, .ref q1, .ref q2, .ref q3, .int 0, .int 0, .ref q4, .ref q5, .null, .null, .null, .null, .null, .null, .int 0, .null, .int 0, .int 0, .int 0, .null, .null, .int 0, .int 0, .int 0, .int 0, .int 0, .int 0, .int 0, .null, .int 0, .int 0])), (q1, .inl (cI, 4, .inl fun _ => 0)), (q2, .inl (cI, 4, .inl fun _ => 0)), (q3, .inl (cI, 16, .inl fun _ => 0)), (q4, .inl (cI, 6, .inl fun _ => 0)), (q5, .inl (cI, 6, .inl fun _ => 0)), (q6, .inl (cI, 288, .inl fun _ => 0))] s A H _ := hI
  refine rb_pF C hI (ty := .array .int) (w' := [(h, .inr (4, [.int 0, .int 0, .int 0, .ref q1, .ref q2, .ref q3, .int 0, .int 0, .ref q4, .ref q5, .ref q6, .null, .null, .null, .null, .null, .int 0, .null, .int 0, .int 0, .int 0, .null, .null, .int 0, .int 0, .int 0, .int 0, .int 0, .int 0, .int 0, .null, .int 0, .int 0])), (q1, .inl (cI, 4, .inl fun _ => 0)), (q2, .inl (cI, 4, .inl fun _ => 0)), (q3, .inl (cI, 16, .inl fun _ => 0)), (q4, .inl (cI, 6, .inl fun _ => 0)), (q5, .inl (cI, 6, .inl fun _ => 0)), (q6, .inl (cI, 288, .inl fun _ => 0))]) in_Mod t_Mod t_Mod_ok n_Mod 0 rfl rfl 10 (by decide) tm_540 rfl hnm rfl (by decide +kernel) rfl rfl (Nat.le_of_ble_eq_true rfl) d_Mod_init_48 rfl (fun H locs hI => ?_)
  refine lv_aload_n hx hb d_Mod_init_51 rfl (lv_at hl 0 rfl) ?_
  refine lv_sipush (v := 240) hx hb d_Mod_init_52 (by decide) ?_
  refine rb_newI C hI tm_35 0 (cA := cI) rfl (N := 240) (by decide) rfl (by decide) (Nat.le_of_ble_eq_true rfl) (by show 0 + 4 + 4 + 16 + 6 + 6 + 288 + 240 ≤ 3572; omega) d_Mod_init_55 (fun q7 H hI => ?_)
  have hI : Wi (dC, dI) clA [(h, .inr (4, [.int 0, .int 0, .int 0, .ref q1, .ref q2, .ref q3, .int 0, .int 0, .ref q4, .ref q5, .ref q6, .null, .null, .null, .null, .null, .int 0, .null, .int 0, .int 0, .int 0, .null, .null, .int 0, .int 0, .int 0, .int 0, .int 0, .int 0, .int 0, .null, .int 0, .int 0])), (q1, .inl (cI, 4, .inl fun _ => 0)), (q2, .inl (cI, 4, .inl fun _ => 0)), (q3, .inl (cI, 16, .inl fun _ => 0)), (q4, .inl (cI, 6, .inl fun _ => 0)), (q5, .inl (cI, 6, .inl fun _ => 0)), (q6, .inl (cI, 288, .inl fun _ => 0)), (q7, .inl (cI, 240, .inl fun _ => 0))] s A H _ := hI
  refine rb_pF C hI (ty := .array .int) (w' := [(h, .inr (4, [.int 0, .int 0, .int 0, .ref q1, .ref q2, .ref q3, .int 0, .int 0, .ref q4, .ref q5, .ref q6, .ref q7, .null, .null, .null, .null, .int 0, .null, .int 0, .int 0, .int 0, .null, .null, .int 0, .int 0, .int 0, .int 0, .int 0, .int 0, .int 0, .null, .int 0, .int 0])), (q1, .inl (cI, 4, .inl fun _ => 0)), (q2, .inl (cI, 4, .inl fun _ => 0)), (q3, .inl (cI, 16, .inl fun _ => 0)), (q4, .inl (cI, 6, .inl fun _ => 0)), (q5, .inl (cI, 6, .inl fun _ => 0)), (q6, .inl (cI, 288, .inl fun _ => 0)), (q7, .inl (cI, 240, .inl fun _ => 0))]) in_Mod t_Mod t_Mod_ok n_Mod 0 rfl rfl 11 (by decide) tm_541 rfl hnm rfl (by decide +kernel) rfl rfl (Nat.le_of_ble_eq_true rfl) d_Mod_init_57 rfl (fun H locs hI => ?_)
  refine lv_aload_n hx hb d_Mod_init_60 rfl (lv_at hl 0 rfl) ?_
  refine lv_sipush (v := 240) hx hb d_Mod_init_61 (by decide) ?_
  refine rb_newI C hI tm_35 0 (cA := cI) rfl (N := 240) (by decide) rfl (by decide) (Nat.le_of_ble_eq_true rfl) (by show 0 + 4 + 4 + 16 + 6 + 6 + 288 + 240 + 240 ≤ 3572; omega) d_Mod_init_64 (fun q8 H hI => ?_)
  have hI : Wi (dC, dI) clA [(h, .inr (4, [.int 0, .int 0, .int 0, .ref q1, .ref q2, .ref q3, .int 0, .int 0, .ref q4, .ref q5, .ref q6, .ref q7, .null, .null, .null, .null, .int 0, .null, .int 0, .int 0, .int 0, .null, .null, .int 0, .int 0, .int 0, .int 0, .int 0, .int 0, .int 0, .null, .int 0, .int 0])), (q1, .inl (cI, 4, .inl fun _ => 0)), (q2, .inl (cI, 4, .inl fun _ => 0)), (q3, .inl (cI, 16, .inl fun _ => 0)), (q4, .inl (cI, 6, .inl fun _ => 0)), (q5, .inl (cI, 6, .inl fun _ => 0)), (q6, .inl (cI, 288, .inl fun _ => 0)), (q7, .inl (cI, 240, .inl fun _ => 0)), (q8, .inl (cI, 240, .inl fun _ => 0))] s A H _ := hI
  refine rb_pF C hI (ty := .array .int) (w' := [(h, .inr (4, [.int 0, .int 0, .int 0, .ref q1, .ref q2, .ref q3, .int 0, .int 0, .ref q4, .ref q5, .ref q6, .ref q7, .ref q8, .null, .null, .null, .int 0, .null, .int 0, .int 0, .int 0, .null, .null, .int 0, .int 0, .int 0, .int 0, .int 0, .int 0, .int 0, .null, .int 0, .int 0])), (q1, .inl (cI, 4, .inl fun _ => 0)), (q2, .inl (cI, 4, .inl fun _ => 0)), (q3, .inl (cI, 16, .inl fun _ => 0)), (q4, .inl (cI, 6, .inl fun _ => 0)), (q5, .inl (cI, 6, .inl fun _ => 0)), (q6, .inl (cI, 288, .inl fun _ => 0)), (q7, .inl (cI, 240, .inl fun _ => 0)), (q8, .inl (cI, 240, .inl fun _ => 0))]) in_Mod t_Mod t_Mod_ok n_Mod 0 rfl rfl 12 (by decide) tm_542 rfl hnm rfl (by decide +kernel) rfl rfl (Nat.le_of_ble_eq_true rfl) d_Mod_init_66 rfl (fun H locs hI => ?_)
  refine lv_aload_n hx hb d_Mod_init_69 rfl (lv_at hl 0 rfl) ?_
  refine lv_sipush (v := 240) hx hb d_Mod_init_70 (by decide) ?_
  refine rb_newI C hI tm_35 0 (cA := cI) rfl (N := 240) (by decide) rfl (by decide) (Nat.le_of_ble_eq_true rfl) (by show 0 + 4 + 4 + 16 + 6 + 6 + 288 + 240 + 240 + 240 ≤ 3572; omega) d_Mod_init_73 (fun q9 H hI => ?_)
  have hI : Wi (dC, dI) clA [(h, .inr (4, [.int 0, .int 0, .int 0, .ref q1, .ref q2, .ref q3, .int 0, .int 0, .ref q4, .ref q5, .ref q6, .ref q7, .ref q8, .null, .null, .null, .int 0, .null, .int 0, .int 0, .int 0, .null, .null, .int 0, .int 0, .int 0, .int 0, .int 0, .int 0, .int 0, .null, .int 0, .int 0])), (q1, .inl (cI, 4, .inl fun _ => 0)), (q2, .inl (cI, 4, .inl fun _ => 0)), (q3, .inl (cI, 16, .inl fun _ => 0)), (q4, .inl (cI, 6, .inl fun _ => 0)), (q5, .inl (cI, 6, .inl fun _ => 0)), (q6, .inl (cI, 288, .inl fun _ => 0)), (q7, .inl (cI, 240, .inl fun _ => 0)), (q8, .inl (cI, 240, .inl fun _ => 0)), (q9, .inl (cI, 240, .inl fun _ => 0))] s A H _ := hI
  refine rb_pF C hI (ty := .array .int) (w' := [(h, .inr (4, [.int 0, .int 0, .int 0, .ref q1, .ref q2, .ref q3, .int 0, .int 0, .ref q4, .ref q5, .ref q6, .ref q7, .ref q8, .ref q9, .null, .null, .int 0, .null, .int 0, .int 0, .int 0, .null, .null, .int 0, .int 0, .int 0, .int 0, .int 0, .int 0, .int 0, .null, .int 0, .int 0])), (q1, .inl (cI, 4, .inl fun _ => 0)), (q2, .inl (cI, 4, .inl fun _ => 0)), (q3, .inl (cI, 16, .inl fun _ => 0)), (q4, .inl (cI, 6, .inl fun _ => 0)), (q5, .inl (cI, 6, .inl fun _ => 0)), (q6, .inl (cI, 288, .inl fun _ => 0)), (q7, .inl (cI, 240, .inl fun _ => 0)), (q8, .inl (cI, 240, .inl fun _ => 0)), (q9, .inl (cI, 240, .inl fun _ => 0))]) in_Mod t_Mod t_Mod_ok n_Mod 0 rfl rfl 13 (by decide) tm_543 rfl hnm rfl (by decide +kernel) rfl rfl (Nat.le_of_ble_eq_true rfl) d_Mod_init_75 rfl (fun H locs hI => ?_)
  refine lv_aload_n hx hb d_Mod_init_78 rfl (lv_at hl 0 rfl) ?_
  refine lv_sipush (v := 960) hx hb d_Mod_init_79 (by decide) ?_
  refine rb_newI C hI tm_35 0 (cA := cI) rfl (N := 960) (by decide) rfl (by decide) (Nat.le_of_ble_eq_true rfl) (by show 0 + 4 + 4 + 16 + 6 + 6 + 288 + 240 + 240 + 240 + 960 ≤ 3572; omega) d_Mod_init_82 (fun q10 H hI => ?_)
  have hI : Wi (dC, dI) clA [(h, .inr (4, [.int 0, .int 0, .int 0, .ref q1, .ref q2, .ref q3, .int 0, .int 0, .ref q4, .ref q5, .ref q6, .ref q7, .ref q8, .ref q9, .null, .null, .int 0, .null, .int 0, .int 0, .int 0, .null, .null, .int 0, .int 0, .int 0, .int 0, .int 0, .int 0, .int 0, .null, .int 0, .int 0])), (q1, .inl (cI, 4, .inl fun _ => 0)), (q2, .inl (cI, 4, .inl fun _ => 0)), (q3, .inl (cI, 16, .inl fun _ => 0)), (q4, .inl (cI, 6, .inl fun _ => 0)), (q5, .inl (cI, 6, .inl fun _ => 0)), (q6, .inl (cI, 288, .inl fun _ => 0)), (q7, .inl (cI, 240, .inl fun _ => 0)), (q8, .inl (cI, 240, .inl fun _ => 0)), (q9, .inl (cI, 240, .inl fun _ => 0)), (q10, .inl (cI, 960, .inl fun _ => 0))] s A H _ := hI
  refine rb_pF C hI (ty := .array .int) (w' := [(h, .inr (4, [.int 0, .int 0, .int 0, .ref q1, .ref q2, .ref q3, .int 0, .int 0, .ref q4, .ref q5, .ref q6, .ref q7, .ref q8, .ref q9, .ref q10, .null, .int 0, .null, .int 0, .int 0, .int 0, .null, .null, .int 0, .int 0, .int 0, .int 0, .int 0, .int 0, .int 0, .null, .int 0, .int 0])), (q1, .inl (cI, 4, .inl fun _ => 0)), (q2, .inl (cI, 4, .inl fun _ => 0)), (q3, .inl (cI, 16, .inl fun _ => 0)), (q4, .inl (cI, 6, .inl fun _ => 0)), (q5, .inl (cI, 6, .inl fun _ => 0)), (q6, .inl (cI, 288, .inl fun _ => 0)), (q7, .inl (cI, 240, .inl fun _ => 0)), (q8, .inl (cI, 240, .inl fun _ => 0)), (q9, .inl (cI, 240, .inl fun _ => 0)), (q10, .inl (cI, 960, .inl fun _ => 0))]) in_Mod t_Mod t_Mod_ok n_Mod 0 rfl rfl 14 (by decide) tm_544 rfl hnm rfl (by decide +kernel) rfl rfl (Nat.le_of_ble_eq_true rfl) d_Mod_init_84 rfl (fun H locs hI => ?_)
  refine lv_aload_n hx hb d_Mod_init_87 rfl (lv_at hl 0 rfl) ?_
  refine lv_sipush (v := 960) hx hb d_Mod_init_88 (by decide) ?_
  refine rb_newI C hI tm_35 0 (cA := cI) rfl (N := 960) (by decide) rfl (by decide) (Nat.le_of_ble_eq_true rfl) (by show 0 + 4 + 4 + 16 + 6 + 6 + 288 + 240 + 240 + 240 + 960 + 960 ≤ 3572; omega) d_Mod_init_91 (fun q11 H hI => ?_)
  have hI : Wi (dC, dI) clA [(h, .inr (4, [.int 0, .int 0, .int 0, .ref q1, .ref q2, .ref q3, .int 0, .int 0, .ref q4, .ref q5, .ref q6, .ref q7, .ref q8, .ref q9, .ref q10, .null, .int 0, .null, .int 0, .int 0, .int 0, .null, .null, .int 0, .int 0, .int 0, .int 0, .int 0, .int 0, .int 0, .null, .int 0, .int 0])), (q1, .inl (cI, 4, .inl fun _ => 0)), (q2, .inl (cI, 4, .inl fun _ => 0)), (q3, .inl (cI, 16, .inl fun _ => 0)), (q4, .inl (cI, 6, .inl fun _ => 0)), (q5, .inl (cI, 6, .inl fun _ => 0)), (q6, .inl (cI, 288, .inl fun _ => 0)), (q7, .inl (cI, 240, .inl fun _ => 0)), (q8, .inl (cI, 240, .inl fun _ => 0)), (q9, .inl (cI, 240, .inl fun _ => 0)), (q10, .inl (cI, 960, .inl fun _ => 0)), (q11, .inl (cI, 960, .inl fun _ => 0))] s A H _ := hI
  refine rb_pF C hI (ty := .array .int) (w' := [(h, .inr (4, [.int 0, .int 0, .int 0, .ref q1, .ref q2, .ref q3, .int 0, .int 0, .ref q4, .ref q5, .ref q6, .ref q7, .ref q8, .ref q9, .ref q10, .ref q11, .int 0, .null, .int 0, .int 0, .int 0, .null, .null, .int 0, .int 0, .int 0, .int 0, .int 0, .int 0, .int 0, .null, .int 0, .int 0])), (q1, .inl (cI, 4, .inl fun _ => 0)), (q2, .inl (cI, 4, .inl fun _ => 0)), (q3, .inl (cI, 16, .inl fun _ => 0)), (q4, .inl (cI, 6, .inl fun _ => 0)), (q5, .inl (cI, 6, .inl fun _ => 0)), (q6, .inl (cI, 288, .inl fun _ => 0)), (q7, .inl (cI, 240, .inl fun _ => 0)), (q8, .inl (cI, 240, .inl fun _ => 0)), (q9, .inl (cI, 240, .inl fun _ => 0)), (q10, .inl (cI, 960, .inl fun _ => 0)), (q11, .inl (cI, 960, .inl fun _ => 0))]) in_Mod t_Mod t_Mod_ok n_Mod 0 rfl rfl 15 (by decide) tm_545 rfl hnm rfl (by decide +kernel) rfl rfl (Nat.le_of_ble_eq_true rfl) d_Mod_init_93 rfl (fun H locs hI => ?_)
  refine lv_aload_n hx hb d_Mod_init_96 rfl (lv_at hl 0 rfl) ?_
  refine lv_bipush (v := 120) hx hb d_Mod_init_97 (by decide) ?_
  refine rb_newI C hI tm_35 0 (cA := cI) rfl (N := 120) (by decide) rfl (by decide) (Nat.le_of_ble_eq_true rfl) (by show 0 + 4 + 4 + 16 + 6 + 6 + 288 + 240 + 240 + 240 + 960 + 960 + 120 ≤ 3572; omega) d_Mod_init_99 (fun q12 H hI => ?_)
  have hI : Wi (dC, dI) clA [(h, .inr (4, [.int 0, .int 0, .int 0, .ref q1, .ref q2, .ref q3, .int 0, .int 0, .ref q4, .ref q5, .ref q6, .ref q7, .ref q8, .ref q9, .ref q10, .ref q11, .int 0, .null, .int 0, .int 0, .int 0, .null, .null, .int 0, .int 0, .int 0, .int 0, .int 0, .int 0, .int 0, .null, .int 0, .int 0])), (q1, .inl (cI, 4, .inl fun _ => 0)), (q2, .inl (cI, 4, .inl fun _ => 0)), (q3, .inl (cI, 16, .inl fun _ => 0)), (q4, .inl (cI, 6, .inl fun _ => 0)), (q5, .inl (cI, 6, .inl fun _ => 0)), (q6, .inl (cI, 288, .inl fun _ => 0)), (q7, .inl (cI, 240, .inl fun _ => 0)), (q8, .inl (cI, 240, .inl fun _ => 0)), (q9, .inl (cI, 240, .inl fun _ => 0)), (q10, .inl (cI, 960, .inl fun _ => 0)), (q11, .inl (cI, 960, .inl fun _ => 0)), (q12, .inl (cI, 120, .inl fun _ => 0))] s A H _ := hI
  refine rb_pF C hI (ty := .array .int) (w' := [(h, .inr (4, [.int 0, .int 0, .int 0, .ref q1, .ref q2, .ref q3, .int 0, .int 0, .ref q4, .ref q5, .ref q6, .ref q7, .ref q8, .ref q9, .ref q10, .ref q11, .int 0, .ref q12, .int 0, .int 0, .int 0, .null, .null, .int 0, .int 0, .int 0, .int 0, .int 0, .int 0, .int 0, .null, .int 0, .int 0])), (q1, .inl (cI, 4, .inl fun _ => 0)), (q2, .inl (cI, 4, .inl fun _ => 0)), (q3, .inl (cI, 16, .inl fun _ => 0)), (q4, .inl (cI, 6, .inl fun _ => 0)), (q5, .inl (cI, 6, .inl fun _ => 0)), (q6, .inl (cI, 288, .inl fun _ => 0)), (q7, .inl (cI, 240, .inl fun _ => 0)), (q8, .inl (cI, 240, .inl fun _ => 0)), (q9, .inl (cI, 240, .inl fun _ => 0)), (q10, .inl (cI, 960, .inl fun _ => 0)), (q11, .inl (cI, 960, .inl fun _ => 0)), (q12, .inl (cI, 120, .inl fun _ => 0))]) in_Mod t_Mod t_Mod_ok n_Mod 0 rfl rfl 17 (by decide) tm_547 rfl hnm rfl (by decide +kernel) rfl rfl (Nat.le_of_ble_eq_true rfl) d_Mod_init_101 rfl (fun H locs hI => ?_)
  refine lv_aload_n hx hb d_Mod_init_104 rfl (lv_at hl 0 rfl) ?_
  refine lv_sipush (v := 240) hx hb d_Mod_init_105 (by decide) ?_
  refine rb_newI C hI tm_35 0 (cA := cI) rfl (N := 240) (by decide) rfl (by decide) (Nat.le_of_ble_eq_true rfl) (by show 0 + 4 + 4 + 16 + 6 + 6 + 288 + 240 + 240 + 240 + 960 + 960 + 120 + 240 ≤ 3572; omega) d_Mod_init_108 (fun q13 H hI => ?_)
  have hI : Wi (dC, dI) clA [(h, .inr (4, [.int 0, .int 0, .int 0, .ref q1, .ref q2, .ref q3, .int 0, .int 0, .ref q4, .ref q5, .ref q6, .ref q7, .ref q8, .ref q9, .ref q10, .ref q11, .int 0, .ref q12, .int 0, .int 0, .int 0, .null, .null, .int 0, .int 0, .int 0, .int 0, .int 0, .int 0, .int 0, .null, .int 0, .int 0])), (q1, .inl (cI, 4, .inl fun _ => 0)), (q2, .inl (cI, 4, .inl fun _ => 0)), (q3, .inl (cI, 16, .inl fun _ => 0)), (q4, .inl (cI, 6, .inl fun _ => 0)), (q5, .inl (cI, 6, .inl fun _ => 0)), (q6, .inl (cI, 288, .inl fun _ => 0)), (q7, .inl (cI, 240, .inl fun _ => 0)), (q8, .inl (cI, 240, .inl fun _ => 0)), (q9, .inl (cI, 240, .inl fun _ => 0)), (q10, .inl (cI, 960, .inl fun _ => 0)), (q11, .inl (cI, 960, .inl fun _ => 0)), (q12, .inl (cI, 120, .inl fun _ => 0)), (q13, .inl (cI, 240, .inl fun _ => 0))] s A H _ := hI
  refine rb_pF C hI (ty := .array .int) (w' := [(h, .inr (4, [.int 0, .int 0, .int 0, .ref q1, .ref q2, .ref q3, .int 0, .int 0, .ref q4, .ref q5, .ref q6, .ref q7, .ref q8, .ref q9, .ref q10, .ref q11, .int 0, .ref q12, .int 0, .int 0, .int 0, .ref q13, .null, .int 0, .int 0, .int 0, .int 0, .int 0, .int 0, .int 0, .null, .int 0, .int 0])), (q1, .inl (cI, 4, .inl fun _ => 0)), (q2, .inl (cI, 4, .inl fun _ => 0)), (q3, .inl (cI, 16, .inl fun _ => 0)), (q4, .inl (cI, 6, .inl fun _ => 0)), (q5, .inl (cI, 6, .inl fun _ => 0)), (q6, .inl (cI, 288, .inl fun _ => 0)), (q7, .inl (cI, 240, .inl fun _ => 0)), (q8, .inl (cI, 240, .inl fun _ => 0)), (q9, .inl (cI, 240, .inl fun _ => 0)), (q10, .inl (cI, 960, .inl fun _ => 0)), (q11, .inl (cI, 960, .inl fun _ => 0)), (q12, .inl (cI, 120, .inl fun _ => 0)), (q13, .inl (cI, 240, .inl fun _ => 0))]) in_Mod t_Mod t_Mod_ok n_Mod 0 rfl rfl 21 (by decide) tm_551 rfl hnm rfl (by decide +kernel) rfl rfl (Nat.le_of_ble_eq_true rfl) d_Mod_init_110 rfl (fun H locs hI => ?_)
  refine lv_aload_n hx hb d_Mod_init_113 rfl (lv_at hl 0 rfl) ?_
  refine lv_sipush (v := 240) hx hb d_Mod_init_114 (by decide) ?_
  refine rb_newZ C hI tm_630 1 (cA := cZ) rfl (N := 240) (by decide) rfl (by decide) (Nat.le_of_ble_eq_true rfl) (by show 0 + 4 + 4 + 16 + 6 + 6 + 288 + 240 + 240 + 240 + 960 + 960 + 120 + 240 + 240 ≤ 3572; omega) d_Mod_init_117 (fun q14 H hI => ?_)
  have hI : Wi (dC, dI) clA [(h, .inr (4, [.int 0, .int 0, .int 0, .ref q1, .ref q2, .ref q3, .int 0, .int 0, .ref q4, .ref q5, .ref q6, .ref q7, .ref q8, .ref q9, .ref q10, .ref q11, .int 0, .ref q12, .int 0, .int 0, .int 0, .ref q13, .null, .int 0, .int 0, .int 0, .int 0, .int 0, .int 0, .int 0, .null, .int 0, .int 0])), (q1, .inl (cI, 4, .inl fun _ => 0)), (q2, .inl (cI, 4, .inl fun _ => 0)), (q3, .inl (cI, 16, .inl fun _ => 0)), (q4, .inl (cI, 6, .inl fun _ => 0)), (q5, .inl (cI, 6, .inl fun _ => 0)), (q6, .inl (cI, 288, .inl fun _ => 0)), (q7, .inl (cI, 240, .inl fun _ => 0)), (q8, .inl (cI, 240, .inl fun _ => 0)), (q9, .inl (cI, 240, .inl fun _ => 0)), (q10, .inl (cI, 960, .inl fun _ => 0)), (q11, .inl (cI, 960, .inl fun _ => 0)), (q12, .inl (cI, 120, .inl fun _ => 0)), (q13, .inl (cI, 240, .inl fun _ => 0)), (q14, .inl (cZ, 240, .inl fun _ => 0))] s A H _ := hI
  refine rb_pF C hI (ty := .array .boolean) (w' := [(h, .inr (4, [.int 0, .int 0, .int 0, .ref q1, .ref q2, .ref q3, .int 0, .int 0, .ref q4, .ref q5, .ref q6, .ref q7, .ref q8, .ref q9, .ref q10, .ref q11, .int 0, .ref q12, .int 0, .int 0, .int 0, .ref q13, .ref q14, .int 0, .int 0, .int 0, .int 0, .int 0, .int 0, .int 0, .null, .int 0, .int 0])), (q1, .inl (cI, 4, .inl fun _ => 0)), (q2, .inl (cI, 4, .inl fun _ => 0)), (q3, .inl (cI, 16, .inl fun _ => 0)), (q4, .inl (cI, 6, .inl fun _ => 0)), (q5, .inl (cI, 6, .inl fun _ => 0)), (q6, .inl (cI, 288, .inl fun _ => 0)), (q7, .inl (cI, 240, .inl fun _ => 0)), (q8, .inl (cI, 240, .inl fun _ => 0)), (q9, .inl (cI, 240, .inl fun _ => 0)), (q10, .inl (cI, 960, .inl fun _ => 0)), (q11, .inl (cI, 960, .inl fun _ => 0)), (q12, .inl (cI, 120, .inl fun _ => 0)), (q13, .inl (cI, 240, .inl fun _ => 0)), (q14, .inl (cZ, 240, .inl fun _ => 0))]) in_Mod t_Mod t_Mod_ok n_Mod 0 rfl rfl 22 (by decide) tm_552 rfl hnm rfl (by decide +kernel) rfl rfl (Nat.le_of_ble_eq_true rfl) d_Mod_init_119 rfl (fun H locs hI => ?_)
  refine lv_aload_n hx hb d_Mod_init_122 rfl (lv_at hl 0 rfl) ?_
  refine lv_iconst (v := 4) hx hb d_Mod_init_123 (by decide) ?_
  refine rb_pN C hI (ty := .int) (w' := [(h, .inr (4, [.int 0, .int 0, .int 0, .ref q1, .ref q2, .ref q3, .int 0, .int 0, .ref q4, .ref q5, .ref q6, .ref q7, .ref q8, .ref q9, .ref q10, .ref q11, .int 0, .ref q12, .int 0, .int 0, .int 0, .ref q13, .ref q14, .int 0, .int 0, .int 0, .int 4, .int 0, .int 0, .int 0, .null, .int 0, .int 0])), (q1, .inl (cI, 4, .inl fun _ => 0)), (q2, .inl (cI, 4, .inl fun _ => 0)), (q3, .inl (cI, 16, .inl fun _ => 0)), (q4, .inl (cI, 6, .inl fun _ => 0)), (q5, .inl (cI, 6, .inl fun _ => 0)), (q6, .inl (cI, 288, .inl fun _ => 0)), (q7, .inl (cI, 240, .inl fun _ => 0)), (q8, .inl (cI, 240, .inl fun _ => 0)), (q9, .inl (cI, 240, .inl fun _ => 0)), (q10, .inl (cI, 960, .inl fun _ => 0)), (q11, .inl (cI, 960, .inl fun _ => 0)), (q12, .inl (cI, 120, .inl fun _ => 0)), (q13, .inl (cI, 240, .inl fun _ => 0)), (q14, .inl (cZ, 240, .inl fun _ => 0))]) in_Mod t_Mod t_Mod_ok n_Mod 0 rfl rfl 26 (by decide) tm_556 rfl rfl (by decide +kernel) rfl rfl (Nat.le_of_ble_eq_true rfl) d_Mod_init_124 rfl (fun H locs hI => ?_)
  refine lv_aload_n hx hb d_Mod_init_127 rfl (lv_at hl 0 rfl) ?_
  refine lv_bipush (v := 8) hx hb d_Mod_init_128 (by decide) ?_
  refine rb_newI C hI tm_35 0 (cA := cI) rfl (N := 8) (by decide) rfl (by decide) (Nat.le_of_ble_eq_true rfl) (by show 0 + 4 + 4 + 16 + 6 + 6 + 288 + 240 + 240 + 240 + 960 + 960 + 120 + 240 + 240 + 8 ≤ 3572; omega) d_Mod_init_130 (fun q15 H hI => ?_)
  have hI : Wi (dC, dI) clA [(h, .inr (4, [.int 0, .int 0, .int 0, .ref q1, .ref q2, .ref q3, .int 0, .int 0, .ref q4, .ref q5, .ref q6, .ref q7, .ref q8, .ref q9, .ref q10, .ref q11, .int 0, .ref q12, .int 0, .int 0, .int 0, .ref q13, .ref q14, .int 0, .int 0, .int 0, .int 4, .int 0, .int 0, .int 0, .null, .int 0, .int 0])), (q1, .inl (cI, 4, .inl fun _ => 0)), (q2, .inl (cI, 4, .inl fun _ => 0)), (q3, .inl (cI, 16, .inl fun _ => 0)), (q4, .inl (cI, 6, .inl fun _ => 0)), (q5, .inl (cI, 6, .inl fun _ => 0)), (q6, .inl (cI, 288, .inl fun _ => 0)), (q7, .inl (cI, 240, .inl fun _ => 0)), (q8, .inl (cI, 240, .inl fun _ => 0)), (q9, .inl (cI, 240, .inl fun _ => 0)), (q10, .inl (cI, 960, .inl fun _ => 0)), (q11, .inl (cI, 960, .inl fun _ => 0)), (q12, .inl (cI, 120, .inl fun _ => 0)), (q13, .inl (cI, 240, .inl fun _ => 0)), (q14, .inl (cZ, 240, .inl fun _ => 0)), (q15, .inl (cI, 8, .inl fun _ => 0))] s A H _ := hI
  refine rb_pF C hI (ty := .array .int) (w' := [(h, .inr (4, [.int 0, .int 0, .int 0, .ref q1, .ref q2, .ref q3, .int 0, .int 0, .ref q4, .ref q5, .ref q6, .ref q7, .ref q8, .ref q9, .ref q10, .ref q11, .int 0, .ref q12, .int 0, .int 0, .int 0, .ref q13, .ref q14, .int 0, .int 0, .int 0, .int 4, .int 0, .int 0, .int 0, .ref q15, .int 0, .int 0])), (q1, .inl (cI, 4, .inl fun _ => 0)), (q2, .inl (cI, 4, .inl fun _ => 0)), (q3, .inl (cI, 16, .inl fun _ => 0)), (q4, .inl (cI, 6, .inl fun _ => 0)), (q5, .inl (cI, 6, .inl fun _ => 0)), (q6, .inl (cI, 288, .inl fun _ => 0)), (q7, .inl (cI, 240, .inl fun _ => 0)), (q8, .inl (cI, 240, .inl fun _ => 0)), (q9, .inl (cI, 240, .inl fun _ => 0)), (q10, .inl (cI, 960, .inl fun _ => 0)), (q11, .inl (cI, 960, .inl fun _ => 0)), (q12, .inl (cI, 120, .inl fun _ => 0)), (q13, .inl (cI, 240, .inl fun _ => 0)), (q14, .inl (cZ, 240, .inl fun _ => 0)), (q15, .inl (cI, 8, .inl fun _ => 0))]) in_Mod t_Mod t_Mod_ok n_Mod 0 rfl rfl 30 (by decide) tm_560 rfl hnm rfl (by decide +kernel) rfl rfl (Nat.le_of_ble_eq_true rfl) d_Mod_init_132 rfl (fun H locs hI => ?_)
  refine lv_aload_n hx hb d_Mod_init_135 rfl (lv_at hl 0 rfl) ?_
  refine lv_iload_n hx hb d_Mod_init_136 rfl (lv_at hl 1 rfl) ?_
  refine lv_bipush (v := 24) hx hb d_Mod_init_137 (by decide) ?_
  refine lv_icmp_ge (tgt := 147) hx hb d_Mod_init_139 (by decide) (fun hc139 => ?_) (fun hc139 => ?_)
  · refine lv_iload_n hx hb d_Mod_init_147 rfl (lv_at hl 1 rfl) ?_
    refine lv_bipush (v := 120) hx hb d_Mod_init_148 (by decide) ?_
    refine lv_icmp_le (tgt := 158) hx hb d_Mod_init_150 (by decide) (fun hc150 => ?_) (fun hc150 => ?_)
    · refine lv_iload_n hx hb d_Mod_init_158 rfl (lv_at hl 1 rfl) ?_
      refine rb_pN C hI (ty := .int) (w' := [(h, .inr (4, [.int x1, .int 0, .int 0, .ref q1, .ref q2, .ref q3, .int 0, .int 0, .ref q4, .ref q5, .ref q6, .ref q7, .ref q8, .ref q9, .ref q10, .ref q11, .int 0, .ref q12, .int 0, .int 0, .int 0, .ref q13, .ref q14, .int 0, .int 0, .int 0, .int 4, .int 0, .int 0, .int 0, .ref q15, .int 0, .int 0])), (q1, .inl (cI, 4, .inl fun _ => 0)), (q2, .inl (cI, 4, .inl fun _ => 0)), (q3, .inl (cI, 16, .inl fun _ => 0)), (q4, .inl (cI, 6, .inl fun _ => 0)), (q5, .inl (cI, 6, .inl fun _ => 0)), (q6, .inl (cI, 288, .inl fun _ => 0)), (q7, .inl (cI, 240, .inl fun _ => 0)), (q8, .inl (cI, 240, .inl fun _ => 0)), (q9, .inl (cI, 240, .inl fun _ => 0)), (q10, .inl (cI, 960, .inl fun _ => 0)), (q11, .inl (cI, 960, .inl fun _ => 0)), (q12, .inl (cI, 120, .inl fun _ => 0)), (q13, .inl (cI, 240, .inl fun _ => 0)), (q14, .inl (cZ, 240, .inl fun _ => 0)), (q15, .inl (cI, 8, .inl fun _ => 0))]) in_Mod t_Mod t_Mod_ok n_Mod 0 rfl rfl 0 (by decide) tm_530 rfl rfl (by decide +kernel) rfl rfl (Nat.le_of_ble_eq_true rfl) d_Mod_init_159 rfl (fun H locs hI => ?_)
      refine lv_aload_n hx hb d_Mod_init_162 rfl (lv_at hl 0 rfl) ?_
      refine lv_iload_n hx hb d_Mod_init_163 rfl (lv_at hl 2 rfl) ?_
      refine lv_iconst (v := 1) hx hb d_Mod_init_164 (by decide) ?_
      refine lv_icmp_ge (tgt := 172) hx hb d_Mod_init_165 (by decide) (fun hc165 => ?_) (fun hc165 => ?_)
      · refine lv_iload_n hx hb d_Mod_init_172 rfl (lv_at hl 2 rfl) ?_
        refine lv_bipush (v := 8) hx hb d_Mod_init_173 (by decide) ?_
        refine lv_icmp_le (tgt := 183) hx hb d_Mod_init_175 (by decide) (fun hc175 => ?_) (fun hc175 => ?_)
        · refine lv_iload_n hx hb d_Mod_init_183 rfl (lv_at hl 2 rfl) ?_
          refine rb_pN C hI (ty := .int) (w' := [(h, .inr (4, [.int x1, .int x2, .int 0, .ref q1, .ref q2, .ref q3, .int 0, .int 0, .ref q4, .ref q5, .ref q6, .ref q7, .ref q8, .ref q9, .ref q10, .ref q11, .int 0, .ref q12, .int 0, .int 0, .int 0, .ref q13, .ref q14, .int 0, .int 0, .int 0, .int 4, .int 0, .int 0, .int 0, .ref q15, .int 0, .int 0])), (q1, .inl (cI, 4, .inl fun _ => 0)), (q2, .inl (cI, 4, .inl fun _ => 0)), (q3, .inl (cI, 16, .inl fun _ => 0)), (q4, .inl (cI, 6, .inl fun _ => 0)), (q5, .inl (cI, 6, .inl fun _ => 0)), (q6, .inl (cI, 288, .inl fun _ => 0)), (q7, .inl (cI, 240, .inl fun _ => 0)), (q8, .inl (cI, 240, .inl fun _ => 0)), (q9, .inl (cI, 240, .inl fun _ => 0)), (q10, .inl (cI, 960, .inl fun _ => 0)), (q11, .inl (cI, 960, .inl fun _ => 0)), (q12, .inl (cI, 120, .inl fun _ => 0)), (q13, .inl (cI, 240, .inl fun _ => 0)), (q14, .inl (cZ, 240, .inl fun _ => 0)), (q15, .inl (cI, 8, .inl fun _ => 0))]) in_Mod t_Mod t_Mod_ok n_Mod 0 rfl rfl 1 (by decide) tm_531 rfl rfl (by decide +kernel) rfl rfl (Nat.le_of_ble_eq_true rfl) d_Mod_init_184 rfl (fun H locs hI => ?_)
          refine W.widen (k := 15) (n := 3572) (by show 0 + 1 + 1 + 1 + 1 + 1 + 1 + 1 + 1 + 1 + 1 + 1 + 1 + 1 + 1 + 1 ≤ 15; omega) (by show 0 + 4 + 4 + 16 + 6 + 6 + 288 + 240 + 240 + 240 + 960 + 960 + 120 + 240 + 240 + 8 ≤ 3572; omega) ?_
          have e1 : lmm x1 = x1 := by unfold lmm; simp only [*, if_true, if_false]
          have e2 : pcm x2 = x2 := by unfold pcm; simp only [*, if_true, if_false]
          rw [← e1, ← e2] at hI
          have hI2 : Wi (dC, dI) clA (wM (fun i => ([h, q1, q2, q3, q4, q5, q6, q7, q8, q9, q10, q11, q12, q13, q14, q15] : List Nat).getD i 0) cI cZ (sg1 x1 x2)) s A H locs := ⟨hI.1.sub [0, 1, 2, 3, 4, 5, 6, 7, 8, 9, 10, 11, 12, 13, 14, 15] rfl, hI.2.1.sub [0, 1, 2, 3, 4, 5, 6, 7, 8, 9, 10, 11, 12, 13, 14, 15] (by decide) rfl, hI.2.2⟩
          exact rb_retN C hr hI2 ⟨(fun i => ([h, q1, q2, q3, q4, q5, q6, q7, q8, q9, q10, q11, q12, q13, q14, q15] : List Nat).getD i 0), rfl, rfl⟩ d_Mod_init_187
        · refine lv_bipush (v := 8) hx hb d_Mod_init_178 (by decide) ?_
          refine lv_goto (tgt := 184) hx hb d_Mod_init_180 (by decide) ?_
          refine rb_pN C hI (ty := .int) (w' := [(h, .inr (4, [.int x1, .int 8, .int 0, .ref q1, .ref q2, .ref q3, .int 0, .int 0, .ref q4, .ref q5, .ref q6, .ref q7, .ref q8, .ref q9, .ref q10, .ref q11, .int 0, .ref q12, .int 0, .int 0, .int 0, .ref q13, .ref q14, .int 0, .int 0, .int 0, .int 4, .int 0, .int 0, .int 0, .ref q15, .int 0, .int 0])), (q1, .inl (cI, 4, .inl fun _ => 0)), (q2, .inl (cI, 4, .inl fun _ => 0)), (q3, .inl (cI, 16, .inl fun _ => 0)), (q4, .inl (cI, 6, .inl fun _ => 0)), (q5, .inl (cI, 6, .inl fun _ => 0)), (q6, .inl (cI, 288, .inl fun _ => 0)), (q7, .inl (cI, 240, .inl fun _ => 0)), (q8, .inl (cI, 240, .inl fun _ => 0)), (q9, .inl (cI, 240, .inl fun _ => 0)), (q10, .inl (cI, 960, .inl fun _ => 0)), (q11, .inl (cI, 960, .inl fun _ => 0)), (q12, .inl (cI, 120, .inl fun _ => 0)), (q13, .inl (cI, 240, .inl fun _ => 0)), (q14, .inl (cZ, 240, .inl fun _ => 0)), (q15, .inl (cI, 8, .inl fun _ => 0))]) in_Mod t_Mod t_Mod_ok n_Mod 0 rfl rfl 1 (by decide) tm_531 rfl rfl (by decide +kernel) rfl rfl (Nat.le_of_ble_eq_true rfl) d_Mod_init_184 rfl (fun H locs hI => ?_)
          refine W.widen (k := 15) (n := 3572) (by show 0 + 1 + 1 + 1 + 1 + 1 + 1 + 1 + 1 + 1 + 1 + 1 + 1 + 1 + 1 + 1 ≤ 15; omega) (by show 0 + 4 + 4 + 16 + 6 + 6 + 288 + 240 + 240 + 240 + 960 + 960 + 120 + 240 + 240 + 8 ≤ 3572; omega) ?_
          have e1 : lmm x1 = x1 := by unfold lmm; simp only [*, if_true, if_false]
          have e2 : pcm x2 = 8 := by unfold pcm; simp only [*, if_true, if_false]
          rw [← e1, ← e2] at hI
          have hI2 : Wi (dC, dI) clA (wM (fun i => ([h, q1, q2, q3, q4, q5, q6, q7, q8, q9, q10, q11, q12, q13, q14, q15] : List Nat).getD i 0) cI cZ (sg1 x1 x2)) s A H locs := ⟨hI.1.sub [0, 1, 2, 3, 4, 5, 6, 7, 8, 9, 10, 11, 12, 13, 14, 15] rfl, hI.2.1.sub [0, 1, 2, 3, 4, 5, 6, 7, 8, 9, 10, 11, 12, 13, 14, 15] (by decide) rfl, hI.2.2⟩
          exact rb_retN C hr hI2 ⟨(fun i => ([h, q1, q2, q3, q4, q5, q6, q7, q8, q9, q10, q11, q12, q13, q14, q15] : List Nat).getD i 0), rfl, rfl⟩ d_Mod_init_187
      · refine lv_iconst (v := 1) hx hb d_Mod_init_168 (by decide) ?_
        refine lv_goto (tgt := 184) hx hb d_Mod_init_169 (by decide) ?_
        refine rb_pN C hI (ty := .int) (w' := [(h, .inr (4, [.int x1, .int 1, .int 0, .ref q1, .ref q2, .ref q3, .int 0, .int 0, .ref q4, .ref q5, .ref q6, .ref q7, .ref q8, .ref q9, .ref q10, .ref q11, .int 0, .ref q12, .int 0, .int 0, .int 0, .ref q13, .ref q14, .int 0, .int 0, .int 0, .int 4, .int 0, .int 0, .int 0, .ref q15, .int 0, .int 0])), (q1, .inl (cI, 4, .inl fun _ => 0)), (q2, .inl (cI, 4, .inl fun _ => 0)), (q3, .inl (cI, 16, .inl fun _ => 0)), (q4, .inl (cI, 6, .inl fun _ => 0)), (q5, .inl (cI, 6, .inl fun _ => 0)), (q6, .inl (cI, 288, .inl fun _ => 0)), (q7, .inl (cI, 240, .inl fun _ => 0)), (q8, .inl (cI, 240, .inl fun _ => 0)), (q9, .inl (cI, 240, .inl fun _ => 0)), (q10, .inl (cI, 960, .inl fun _ => 0)), (q11, .inl (cI, 960, .inl fun _ => 0)), (q12, .inl (cI, 120, .inl fun _ => 0)), (q13, .inl (cI, 240, .inl fun _ => 0)), (q14, .inl (cZ, 240, .inl fun _ => 0)), (q15, .inl (cI, 8, .inl fun _ => 0))]) in_Mod t_Mod t_Mod_ok n_Mod 0 rfl rfl 1 (by decide) tm_531 rfl rfl (by decide +kernel) rfl rfl (Nat.le_of_ble_eq_true rfl) d_Mod_init_184 rfl (fun H locs hI => ?_)
        refine W.widen (k := 15) (n := 3572) (by show 0 + 1 + 1 + 1 + 1 + 1 + 1 + 1 + 1 + 1 + 1 + 1 + 1 + 1 + 1 + 1 ≤ 15; omega) (by show 0 + 4 + 4 + 16 + 6 + 6 + 288 + 240 + 240 + 240 + 960 + 960 + 120 + 240 + 240 + 8 ≤ 3572; omega) ?_
        have e1 : lmm x1 = x1 := by unfold lmm; simp only [*, if_true, if_false]
        have e2 : pcm x2 = 1 := by unfold pcm; simp only [*, if_true, if_false]
        rw [← e1, ← e2] at hI
        have hI2 : Wi (dC, dI) clA (wM (fun i => ([h, q1, q2, q3, q4, q5, q6, q7, q8, q9, q10, q11, q12, q13, q14, q15] : List Nat).getD i 0) cI cZ (sg1 x1 x2)) s A H locs := ⟨hI.1.sub [0, 1, 2, 3, 4, 5, 6, 7, 8, 9, 10, 11, 12, 13, 14, 15] rfl, hI.2.1.sub [0, 1, 2, 3, 4, 5, 6, 7, 8, 9, 10, 11, 12, 13, 14, 15] (by decide) rfl, hI.2.2⟩
        exact rb_retN C hr hI2 ⟨(fun i => ([h, q1, q2, q3, q4, q5, q6, q7, q8, q9, q10, q11, q12, q13, q14, q15] : List Nat).getD i 0), rfl, rfl⟩ d_Mod_init_187
    · refine lv_bipush (v := 120) hx hb d_Mod_init_153 (by decide) ?_
      refine lv_goto (tgt := 159) hx hb d_Mod_init_155 (by decide) ?_
      refine rb_pN C hI (ty := .int) (w' := [(h, .inr (4, [.int 120, .int 0, .int 0, .ref q1, .ref q2, .ref q3, .int 0, .int 0, .ref q4, .ref q5, .ref q6, .ref q7, .ref q8, .ref q9, .ref q10, .ref q11, .int 0, .ref q12, .int 0, .int 0, .int 0, .ref q13, .ref q14, .int 0, .int 0, .int 0, .int 4, .int 0, .int 0, .int 0, .ref q15, .int 0, .int 0])), (q1, .inl (cI, 4, .inl fun _ => 0)), (q2, .inl (cI, 4, .inl fun _ => 0)), (q3, .inl (cI, 16, .inl fun _ => 0)), (q4, .inl (cI, 6, .inl fun _ => 0)), (q5, .inl (cI, 6, .inl fun _ => 0)), (q6, .inl (cI, 288, .inl fun _ => 0)), (q7, .inl (cI, 240, .inl fun _ => 0)), (q8, .inl (cI, 240, .inl fun _ => 0)), (q9, .inl (cI, 240, .inl fun _ => 0)), (q10, .inl (cI, 960, .inl fun _ => 0)), (q11, .inl (cI, 960, .inl fun _ => 0)), (q12, .inl (cI, 120, .inl fun _ => 0)), (q13, .inl (cI, 240, .inl fun _ => 0)), (q14, .inl (cZ, 240, .inl fun _ => 0)), (q15, .inl (cI, 8, .inl fun _ => 0))]) in_Mod t_Mod t_Mod_ok n_Mod 0 rfl rfl 0 (by decide) tm_530 rfl rfl (by decide +kernel) rfl rfl (Nat.le_of_ble_eq_true rfl) d_Mod_init_159 rfl (fun H locs hI => ?_)
      refine lv_aload_n hx hb d_Mod_init_162 rfl (lv_at hl 0 rfl) ?_
      refine lv_iload_n hx hb d_Mod_init_163 rfl (lv_at hl 2 rfl) ?_
      refine lv_iconst (v := 1) hx hb d_Mod_init_164 (by decide) ?_
      refine lv_icmp_ge (tgt := 172) hx hb d_Mod_init_165 (by decide) (fun hc165 => ?_) (fun hc165 => ?_)
      · refine lv_iload_n hx hb d_Mod_init_172 rfl (lv_at hl 2 rfl) ?_
        refine lv_bipush (v := 8) hx hb d_Mod_init_173 (by decide) ?_
        refine lv_icmp_le (tgt := 183) hx hb d_Mod_init_175 (by decide) (fun hc175 => ?_) (fun hc175 => ?_)
        · refine lv_iload_n hx hb d_Mod_init_183 rfl (lv_at hl 2 rfl) ?_
          refine rb_pN C hI (ty := .int) (w' := [(h, .inr (4, [.int 120, .int x2, .int 0, .ref q1, .ref q2, .ref q3, .int 0, .int 0, .ref q4, .ref q5, .ref q6, .ref q7, .ref q8, .ref q9, .ref q10, .ref q11, .int 0, .ref q12, .int 0, .int 0, .int 0, .ref q13, .ref q14, .int 0, .int 0, .int 0, .int 4, .int 0, .int 0, .int 0, .ref q15, .int 0, .int 0])), (q1, .inl (cI, 4, .inl fun _ => 0)), (q2, .inl (cI, 4, .inl fun _ => 0)), (q3, .inl (cI, 16, .inl fun _ => 0)), (q4, .inl (cI, 6, .inl fun _ => 0)), (q5, .inl (cI, 6, .inl fun _ => 0)), (q6, .inl (cI, 288, .inl fun _ => 0)), (q7, .inl (cI, 240, .inl fun _ => 0)), (q8, .inl (cI, 240, .inl fun _ => 0)), (q9, .inl (cI, 240, .inl fun _ => 0)), (q10, .inl (cI, 960, .inl fun _ => 0)), (q11, .inl (cI, 960, .inl fun _ => 0)), (q12, .inl (cI, 120, .inl fun _ => 0)), (q13, .inl (cI, 240, .inl fun _ => 0)), (q14, .inl (cZ, 240, .inl fun _ => 0)), (q15, .inl (cI, 8, .inl fun _ => 0))]) in_Mod t_Mod t_Mod_ok n_Mod 0 rfl rfl 1 (by decide) tm_531 rfl rfl (by decide +kernel) rfl rfl (Nat.le_of_ble_eq_true rfl) d_Mod_init_184 rfl (fun H locs hI => ?_)
          refine W.widen (k := 15) (n := 3572) (by show 0 + 1 + 1 + 1 + 1 + 1 + 1 + 1 + 1 + 1 + 1 + 1 + 1 + 1 + 1 + 1 ≤ 15; omega) (by show 0 + 4 + 4 + 16 + 6 + 6 + 288 + 240 + 240 + 240 + 960 + 960 + 120 + 240 + 240 + 8 ≤ 3572; omega) ?_
          have e1 : lmm x1 = 120 := by unfold lmm; simp only [*, if_true, if_false]
          have e2 : pcm x2 = x2 := by unfold pcm; simp only [*, if_true, if_false]
          rw [← e1, ← e2] at hI
          have hI2 : Wi (dC, dI) clA (wM (fun i => ([h, q1, q2, q3, q4, q5, q6, q7, q8, q9, q10, q11, q12, q13, q14, q15] : List Nat).getD i 0) cI cZ (sg1 x1 x2)) s A H locs := ⟨hI.1.sub [0, 1, 2, 3, 4, 5, 6, 7, 8, 9, 10, 11, 12, 13, 14, 15] rfl, hI.2.1.sub [0, 1, 2, 3, 4, 5, 6, 7, 8, 9, 10, 11, 12, 13, 14, 15] (by decide) rfl, hI.2.2⟩
          exact rb_retN C hr hI2 ⟨(fun i => ([h, q1, q2, q3, q4, q5, q6, q7, q8, q9, q10, q11, q12, q13, q14, q15] : List Nat).getD i 0), rfl, rfl⟩ d_Mod_init_187
        · refine lv_bipush (v := 8) hx hb d_Mod_init_178 (by decide) ?_
          refine lv_goto (tgt := 184) hx hb d_Mod_init_180 (by decide) ?_
          refine rb_pN C hI (ty := .int) (w' := [(h, .inr (4, [.int 120, .int 8, .int 0, .ref q1, .ref q2, .ref q3, .int 0, .int 0, .ref q4, .ref q5, .ref q6, .ref q7, .ref q8, .ref q9, .ref q10, .ref q11, .int 0, .ref q12, .int 0, .int 0, .int 0, .ref q13, .ref q14, .int 0, .int 0, .int 0, .int 4, .int 0, .int 0, .int 0, .ref q15, .int 0, .int 0])), (q1, .inl (cI, 4, .inl fun _ => 0)), (q2, .inl (cI, 4, .inl fun _ => 0)), (q3, .inl (cI, 16, .inl fun _ => 0)), (q4, .inl (cI, 6, .inl fun _ => 0)), (q5, .inl (cI, 6, .inl fun _ => 0)), (q6, .inl (cI, 288, .inl fun _ => 0)), (q7, .inl (cI, 240, .inl fun _ => 0)), (q8, .inl (cI, 240, .inl fun _ => 0)), (q9, .inl (cI, 240, .inl fun _ => 0)), (q10, .inl (cI, 960, .inl fun _ => 0)), (q11, .inl (cI, 960, .inl fun _ => 0)), (q12, .inl (cI, 120, .inl fun _ => 0)), (q13, .inl (cI, 240, .inl fun _ => 0)), (q14, .inl (cZ, 240, .inl fun _ => 0)), (q15, .inl (cI, 8, .inl fun _ => 0))]) in_Mod t_Mod t_Mod_ok n_Mod 0 rfl rfl 1 (by decide) tm_531 rfl rfl (by decide +kernel) rfl rfl (Nat.le_of_ble_eq_true rfl) d_Mod_init_184 rfl (fun H locs hI => ?_)
          refine W.widen (k := 15) (n := 3572) (by show 0 + 1 + 1 + 1 + 1 + 1 + 1 + 1 + 1 + 1 + 1 + 1 + 1 + 1 + 1 + 1 ≤ 15; omega) (by show 0 + 4 + 4 + 16 + 6 + 6 + 288 + 240 + 240 + 240 + 960 + 960 + 120 + 240 + 240 + 8 ≤ 3572; omega) ?_
          have e1 : lmm x1 = 120 := by unfold lmm; simp only [*, if_true, if_false]
          have e2 : pcm x2 = 8 := by unfold pcm; simp only [*, if_true, if_false]
          rw [← e1, ← e2] at hI
          have hI2 : Wi (dC, dI) clA (wM (fun i => ([h, q1, q2, q3, q4, q5, q6, q7, q8, q9, q10, q11, q12, q13, q14, q15] : List Nat).getD i 0) cI cZ (sg1 x1 x2)) s A H locs := ⟨hI.1.sub [0, 1, 2, 3, 4, 5, 6, 7, 8, 9, 10, 11, 12, 13, 14, 15] rfl, hI.2.1.sub [0, 1, 2, 3, 4, 5, 6, 7, 8, 9, 10, 11, 12, 13, 14, 15] (by decide) rfl, hI.2.2⟩
          exact rb_retN C hr hI2 ⟨(fun i => ([h, q1, q2, q3, q4, q5, q6, q7, q8, q9, q10, q11, q12, q13, q14, q15] : List Nat).getD i 0), rfl, rfl⟩ d_Mod_init_187
      · refine lv_iconst (v := 1) hx hb d_Mod_init_168 (by decide) ?_
        refine lv_goto (tgt := 184) hx hb d_Mod_init_169 (by decide) ?_
        refine rb_pN C hI (ty := .int) (w' := [(h, .inr (4, [.int 120, .int 1, .int 0, .ref q1, .ref q2, .ref q3, .int 0, .int 0, .ref q4, .ref q5, .ref q6, .ref q7, .ref q8, .ref q9, .ref q10, .ref q11, .int 0, .ref q12, .int 0, .int 0, .int 0, .ref q13, .ref q14, .int 0, .int 0, .int 0, .int 4, .int 0, .int 0, .int 0, .ref q15, .int 0, .int 0])), (q1, .inl (cI, 4, .inl fun _ => 0)), (q2, .inl (cI, 4, .inl fun _ => 0)), (q3, .inl (cI, 16, .inl fun _ => 0)), (q4, .inl (cI, 6, .inl fun _ => 0)), (q5, .inl (cI, 6, .inl fun _ => 0)), (q6, .inl (cI, 288, .inl fun _ => 0)), (q7, .inl (cI, 240, .inl fun _ => 0)), (q8, .inl (cI, 240, .inl fun _ => 0)), (q9, .inl (cI, 240, .inl fun _ => 0)), (q10, .inl (cI, 960, .inl fun _ => 0)), (q11, .inl (cI, 960, .inl fun _ => 0)), (q12, .inl (cI, 120, .inl fun _ => 0)), (q13, .inl (cI, 240, .inl fun _ => 0)), (q14, .inl (cZ, 240, .inl fun _ => 0)), (q15, .inl (cI, 8, .inl fun _ => 0))]) in_Mod t_Mod t_Mod_ok n_Mod 0 rfl rfl 1 (by decide) tm_531 rfl rfl (by decide +kernel) rfl rfl (Nat.le_of_ble_eq_true rfl) d_Mod_init_184 rfl (fun H locs hI => ?_)
        refine W.widen (k := 15) (n := 3572) (by show 0 + 1 + 1 + 1 + 1 + 1 + 1 + 1 + 1 + 1 + 1 + 1 + 1 + 1 + 1 + 1 ≤ 15; omega) (by show 0 + 4 + 4 + 16 + 6 + 6 + 288 + 240 + 240 + 240 + 960 + 960 + 120 + 240 + 240 + 8 ≤ 3572; omega) ?_
        have e1 : lmm x1 = 120 := by unfold lmm; simp only [*, if_true, if_false]
        have e2 : pcm x2 = 1 := by unfold pcm; simp only [*, if_true, if_false]
        rw [← e1, ← e2] at hI
        have hI2 : Wi (dC, dI) clA (wM (fun i => ([h, q1, q2, q3, q4, q5, q6, q7, q8, q9, q10, q11, q12, q13, q14, q15] : List Nat).getD i 0) cI cZ (sg1 x1 x2)) s A H locs := ⟨hI.1.sub [0, 1, 2, 3, 4, 5, 6, 7, 8, 9, 10, 11, 12, 13, 14, 15] rfl, hI.2.1.sub [0, 1, 2, 3, 4, 5, 6, 7, 8, 9, 10, 11, 12, 13, 14, 15] (by decide) rfl, hI.2.2⟩
        exact rb_retN C hr hI2 ⟨(fun i => ([h, q1, q2, q3, q4, q5, q6, q7, q8, q9, q10, q11, q12, q13, q14, q15] : List Nat).getD i 0), rfl, rfl⟩ d_Mod_init_187
  · refine lv_bipush (v := 24) hx hb d_Mod_init_142 (by decide) ?_
    refine lv_goto (tgt := 159) hx hb d_Mod_init_144 (by decide) ?_
    refine rb_pN C hI (ty := .int) (w' := [(h, .inr (4, [.int 24, .int 0, .int 0, .ref q1, .ref q2, .ref q3, .int 0, .int 0, .ref q4, .ref q5, .ref q6, .ref q7, .ref q8, .ref q9, .ref q10, .ref q11, .int 0, .ref q12, .int 0, .int 0, .int 0, .ref q13, .ref q14, .int 0, .int 0, .int 0, .int 4, .int 0, .int 0, .int 0, .ref q15, .int 0, .int 0])), (q1, .inl (cI, 4, .inl fun _ => 0)), (q2, .inl (cI, 4, .inl fun _ => 0)), (q3, .inl (cI, 16, .inl fun _ => 0)), (q4, .inl (cI, 6, .inl fun _ => 0)), (q5, .inl (cI, 6, .inl fun _ => 0)), (q6, .inl (cI, 288, .inl fun _ => 0)), (q7, .inl (cI, 240, .inl fun _ => 0)), (q8, .inl (cI, 240, .inl fun _ => 0)), (q9, .inl (cI, 240, .inl fun _ => 0)), (q10, .inl (cI, 960, .inl fun _ => 0)), (q11, .inl (cI, 960, .inl fun _ => 0)), (q12, .inl (cI, 120, .inl fun _ => 0)), (q13, .inl (cI, 240, .inl fun _ => 0)), (q14, .inl (cZ, 240, .inl fun _ => 0)), (q15, .inl (cI, 8, .inl fun _ => 0))]) in_Mod t_Mod t_Mod_ok n_Mod 0 rfl rfl 0 (by decide) tm_530 rfl rfl (by decide +kernel) rfl rfl (Nat.le_of_ble_eq_true rfl) d_Mod_init_159 rfl (fun H locs hI => ?_)
    refine lv_aload_n hx hb d_Mod_init_162 rfl (lv_at hl 0 rfl) ?_
    refine lv_iload_n hx hb d_Mod_init_163 rfl (lv_at hl 2 rfl) ?_
    refine lv_iconst (v := 1) hx hb d_Mod_init_164 (by decide) ?_
    refine lv_icmp_ge (tgt := 172) hx hb d_Mod_init_165 (by decide) (fun hc165 => ?_) (fun hc165 => ?_)
    · refine lv_iload_n hx hb d_Mod_init_172 rfl (lv_at hl 2 rfl) ?_
      refine lv_bipush (v := 8) hx hb d_Mod_init_173 (by decide) ?_
      refine lv_icmp_le (tgt := 183) hx hb d_Mod_init_175 (by decide) (fun hc175 => ?_) (fun hc175 => ?_)
      · refine lv_iload_n hx hb d_Mod_init_183 rfl (lv_at hl 2 rfl) ?_
        refine rb_pN C hI (ty := .int) (w' := [(h, .inr (4, [.int 24, .int x2, .int 0, .ref q1, .ref q2, .ref q3, .int 0, .int 0, .ref q4, .ref q5, .ref q6, .ref q7, .ref q8, .ref q9, .ref q10, .ref q11, .int 0, .ref q12, .int 0, .int 0, .int 0, .ref q13, .ref q14, .int 0, .int 0, .int 0, .int 4, .int 0, .int 0, .int 0, .ref q15, .int 0, .int 0])), (q1, .inl (cI, 4, .inl fun _ => 0)), (q2, .inl (cI, 4, .inl fun _ => 0)), (q3, .inl (cI, 16, .inl fun _ => 0)), (q4, .inl (cI, 6, .inl fun _ => 0)), (q5, .inl (cI, 6, .inl fun _ => 0)), (q6, .inl (cI, 288, .inl fun _ => 0)), (q7, .inl (cI, 240, .inl fun _ => 0)), (q8, .inl (cI, 240, .inl fun _ => 0)), (q9, .inl (cI, 240, .inl fun _ => 0)), (q10, .inl (cI, 960, .inl fun _ => 0)), (q11, .inl (cI, 960, .inl fun _ => 0)), (q12, .inl (cI, 120, .inl fun _ => 0)), (q13, .inl (cI, 240, .inl fun _ => 0)), (q14, .inl (cZ, 240, .inl fun _ => 0)), (q15, .inl (cI, 8, .inl fun _ => 0))]) in_Mod t_Mod t_Mod_ok n_Mod 0 rfl rfl 1 (by decide) tm_531 rfl rfl (by decide +kernel) rfl rfl (Nat.le_of_ble_eq_true rfl) d_Mod_init_184 rfl (fun H locs hI => ?_)
        refine W.widen (k := 15) (n := 3572) (by show 0 + 1 + 1 + 1 + 1 + 1 + 1 + 1 + 1 + 1 + 1 + 1 + 1 + 1 + 1 + 1 ≤ 15; omega) (by show 0 + 4 + 4 + 16 + 6 + 6 + 288 + 240 + 240 + 240 + 960 + 960 + 120 + 240 + 240 + 8 ≤ 3572; omega) ?_
        have e1 : lmm x1 = 24 := by unfold lmm; simp only [*, if_true, if_false]
        have e2 : pcm x2 = x2 := by unfold pcm; simp only [*, if_true, if_false]
        rw [← e1, ← e2] at hI
        have hI2 : Wi (dC, dI) clA (wM (fun i => ([h, q1, q2, q3, q4, q5, q6, q7, q8, q9, q10, q11, q12, q13, q14, q15] : List Nat).getD i 0) cI cZ (sg1 x1 x2)) s A H locs := ⟨hI.1.sub [0, 1, 2, 3, 4, 5, 6, 7, 8, 9, 10, 11, 12, 13, 14, 15] rfl, hI.2.1.sub [0, 1, 2, 3, 4, 5, 6, 7, 8, 9, 10, 11, 12, 13, 14, 15] (by decide) rfl, hI.2.2⟩
        exact rb_retN C hr hI2 ⟨(fun i => ([h, q1, q2, q3, q4, q5, q6, q7, q8, q9, q10, q11, q12, q13, q14, q15] : List Nat).getD i 0), rfl, rfl⟩ d_Mod_init_187
      · refine lv_bipush (v := 8) hx hb d_Mod_init_178 (by decide) ?_
        refine lv_goto (tgt := 184) hx hb d_Mod_init_180 (by decide) ?_
        refine rb_pN C hI (ty := .int) (w' := [(h, .inr (4, [.int 24, .int 8, .int 0, .ref q1, .ref q2, .ref q3, .int 0, .int 0, .ref q4, .ref q5, .ref q6, .ref q7, .ref q8, .ref q9, .ref q10, .ref q11, .int 0, .ref q12, .int 0, .int 0, .int 0, .ref q13, .ref q14, .int 0, .int 0, .int 0, .int 4, .int 0, .int 0, .int 0, .ref q15, .int 0, .int 0])), (q1, .inl (cI, 4, .inl fun _ => 0)), (q2, .inl (cI, 4, .inl fun _ => 0)), (q3, .inl (cI, 16, .inl fun _ => 0)), (q4, .inl (cI, 6, .inl fun _ => 0)), (q5, .inl (cI, 6, .inl fun _ => 0)), (q6, .inl (cI, 288, .inl fun _ => 0)), (q7, .inl (cI, 240, .inl fun _ => 0)), (q8, .inl (cI, 240, .inl fun _ => 0)), (q9, .inl (cI, 240, .inl fun _ => 0)), (q10, .inl (cI, 960, .inl fun _ => 0)), (q11, .inl (cI, 960, .inl fun _ => 0)), (q12, .inl (cI, 120, .inl fun _ => 0)), (q13, .inl (cI, 240, .inl fun _ => 0)), (q14, .inl (cZ, 240, .inl fun _ => 0)), (q15, .inl (cI, 8, .inl fun _ => 0))]) in_Mod t_Mod t_Mod_ok n_Mod 0 rfl rfl 1 (by decide) tm_531 rfl rfl (by decide +kernel) rfl rfl (Nat.le_of_ble_eq_true rfl) d_Mod_init_184 rfl (fun H locs hI => ?_)
        refine W.widen (k := 15) (n := 3572) (by show 0 + 1 + 1 + 1 + 1 + 1 + 1 + 1 + 1 + 1 + 1 + 1 + 1 + 1 + 1 + 1 ≤ 15; omega) (by show 0 + 4 + 4 + 16 + 6 + 6 + 288 + 240 + 240 + 240 + 960 + 960 + 120 + 240 + 240 + 8 ≤ 3572; omega) ?_
        have e1 : lmm x1 = 24 := by unfold lmm; simp only [*, if_true, if_false]
        have e2 : pcm x2 = 8 := by unfold pcm; simp only [*, if_true, if_false]
        rw [← e1, ← e2] at hI
        have hI2 : Wi (dC, dI) clA (wM (fun i => ([h, q1, q2, q3, q4, q5, q6, q7, q8, q9, q10, q11, q12, q13, q14, q15] : List Nat).getD i 0) cI cZ (sg1 x1 x2)) s A H locs := ⟨hI.1.sub [0, 1, 2, 3, 4, 5, 6, 7, 8, 9, 10, 11, 12, 13, 14, 15] rfl, hI.2.1.sub [0, 1, 2, 3, 4, 5, 6, 7, 8, 9, 10, 11, 12, 13, 14, 15] (by decide) rfl, hI.2.2⟩
        exact rb_retN C hr hI2 ⟨(fun i => ([h, q1, q2, q3, q4, q5, q6, q7, q8, q9, q10, q11, q12, q13, q14, q15] : List Nat).getD i 0), rfl, rfl⟩ d_Mod_init_187
    · refine lv_iconst (v := 1) hx hb d_Mod_init_168 (by decide) ?_
      refine lv_goto (tgt := 184) hx hb d_Mod_init_169 (by decide) ?_
      refine rb_pN C hI (ty := .int) (w' := [(h, .inr (4, [.int 24, .int 1, .int 0, .ref q1, .ref q2, .ref q3, .int 0, .int 0, .ref q4, .ref q5, .ref q6, .ref q7, .ref q8, .ref q9, .ref q10, .ref q11, .int 0, .ref q12, .int 0, .int 0, .int 0, .ref q13, .ref q14, .int 0, .int 0, .int 0, .int 4, .int 0, .int 0, .int 0, .ref q15, .int 0, .int 0])), (q1, .inl (cI, 4, .inl fun _ => 0)), (q2, .inl (cI, 4, .inl fun _ => 0)), (q3, .inl (cI, 16, .inl fun _ => 0)), (q4, .inl (cI, 6, .inl fun _ => 0)), (q5, .inl (cI, 6, .inl fun _ => 0)), (q6, .inl (cI, 288, .inl fun _ => 0)), (q7, .inl (cI, 240, .inl fun _ => 0)), (q8, .inl (cI, 240, .inl fun _ => 0)), (q9, .inl (cI, 240, .inl fun _ => 0)), (q10, .inl (cI, 960, .inl fun _ => 0)), (q11, .inl (cI, 960, .inl fun _ => 0)), (q12, .inl (cI, 120, .inl fun _ => 0)), (q13, .inl (cI, 240, .inl fun _ => 0)), (q14, .inl (cZ, 240, .inl fun _ => 0)), (q15, .inl (cI, 8, .inl fun _ => 0))]) in_Mod t_Mod t_Mod_ok n_Mod 0 rfl rfl 1 (by decide) tm_531 rfl rfl (by decide +kernel) rfl rfl (Nat.le_of_ble_eq_true rfl) d_Mod_init_184 rfl (fun H locs hI => ?_)
      refine W.widen (k := 15) (n := 3572) (by show 0 + 1 + 1 + 1 + 1 + 1 + 1 + 1 + 1 + 1 + 1 + 1 + 1 + 1 + 1 + 1 ≤ 15; omega) (by show 0 + 4 + 4 + 16 + 6 + 6 + 288 + 240 + 240 + 240 + 960 + 960 + 120 + 240 + 240 + 8 ≤ 3572; omega) ?_
      have e1 : lmm x1 = 24 := by unfold lmm; simp only [*, if_true, if_false]
      have e2 : pcm x2 = 1 := by unfold pcm; simp only [*, if_true, if_false]
      rw [← e1, ← e2] at hI
      have hI2 : Wi (dC, dI) clA (wM (fun i => ([h, q1, q2, q3, q4, q5, q6, q7, q8, q9, q10, q11, q12, q13, q14, q15] : List Nat).getD i 0) cI cZ (sg1 x1 x2)) s A H locs := ⟨hI.1.sub [0, 1, 2, 3, 4, 5, 6, 7, 8, 9, 10, 11, 12, 13, 14, 15] rfl, hI.2.1.sub [0, 1, 2, 3, 4, 5, 6, 7, 8, 9, 10, 11, 12, 13, 14, 15] (by decide) rfl, hI.2.2⟩
      exact rb_retN C hr hI2 ⟨(fun i => ([h, q1, q2, q3, q4, q5, q6, q7, q8, q9, q10, q11, q12, q13, q14, q15] : List Nat).getD i 0), rfl, rfl⟩ d_Mod_init_187
