theorem d_Room_headOf_0 : decode b_Room_headOf 0 = .ok (.iload_n 0, 1) := by decide +kernel
theorem d_Room_headOf_1 : decode b_Room_headOf 1 = .ok (.iconst 3, 1) := by decide +kernel
theorem d_Room_headOf_2 : decode b_Room_headOf 2 = .ok (.ishl, 1) := by decide +kernel
theorem d_Room_headOf_3 : decode b_Room_headOf 3 = .ok (.iload_n 1, 1) := by decide +kernel
theorem d_Room_headOf_4 : decode b_Room_headOf 4 = .ok (.ior, 1) := by decide +kernel
theorem d_Room_headOf_5 : decode b_Room_headOf 5 = .ok (.iconst 3, 1) := by decide +kernel
theorem d_Room_headOf_6 : decode b_Room_headOf 6 = .ok (.ishl, 1) := by decide +kernel
theorem d_Room_headOf_7 : decode b_Room_headOf 7 = .ok (.iload_n 2, 1) := by decide +kernel
theorem d_Room_headOf_8 : decode b_Room_headOf 8 = .ok (.ior, 1) := by decide +kernel
theorem d_Room_headOf_9 : decode b_Room_headOf 9 = .ok (.ireturn, 1) := by decide +kernel
abbrev rm_Room_headOf : Room := { frames := 0, cells := 0, slots := 0, locals := 0 }
set_option maxHeartbeats 4000000 in
set_option maxRecDepth 100000 in
theorem c_Room_headOf {l : Launch} {dC : Nat → ClassId} {dI : Nat → Nat → Nat} {a : Nat → Nat} {cI : ClassId} {L : Nat} {tt : Nat → Nat} {σ : St} {x0 x1 x2 : Int32} {q : Int32 × St} (h : fRoom_headOf L σ x0 x1 x2 = some q) : CI l (dC, dI) clA (tyX cI) (SXx tt) (wX a cI L σ) (wX a cI L q.2) y_Room_headOf b_Room_headOf 3 (some .int) rm_Room_headOf [.int x0, .int x1, .int x2] q.1 := by
  refine CI_of (by decide) (Nat.le_of_ble_eq_true rfl) ?_
  intro pr e s m below meth c A ls C hr hl hI
  have hx := C.1
  have hb := C.2.1
  have hl : lv_has ls 3 [(0, .int x0), (1, .int x1), (2, .int x2)] := hl
  unfold fRoom_headOf at h
  refine lv_iload_n hx hb d_Room_headOf_0 rfl (lv_at hl 0 rfl) ?_
  refine lv_iconst (v := 3) hx hb d_Room_headOf_1 (by decide) ?_
  refine lv_ishl hx hb d_Room_headOf_2 ?_
  refine lv_iload_n hx hb d_Room_headOf_3 rfl (lv_at hl 1 rfl) ?_
  refine lv_ior hx hb d_Room_headOf_4 ?_
  refine lv_iconst (v := 3) hx hb d_Room_headOf_5 (by decide) ?_
  refine lv_ishl hx hb d_Room_headOf_6 ?_
  refine lv_iload_n hx hb d_Room_headOf_7 rfl (lv_at hl 2 rfl) ?_
  refine lv_ior hx hb d_Room_headOf_8 ?_
  replace h := Option.some.inj h
  subst h
  exact rb_retI C hr hI d_Room_headOf_9
theorem d_Room_headOfFrame_0 : decode b_Room_headOfFrame 0 = .ok (.iconst 4, 1) := by decide +kernel
theorem d_Room_headOfFrame_1 : decode b_Room_headOfFrame 1 = .ok (.iload_n 0, 1) := by decide +kernel
theorem d_Room_headOfFrame_2 : decode b_Room_headOfFrame 2 = .ok (.iadd, 1) := by decide +kernel
theorem d_Room_headOfFrame_3 : decode b_Room_headOfFrame 3 = .ok (.iconst 4, 1) := by decide +kernel
theorem d_Room_headOfFrame_4 : decode b_Room_headOfFrame 4 = .ok (.iconst 4, 1) := by decide +kernel
theorem d_Room_headOfFrame_5 : decode b_Room_headOfFrame 5 = .ok (.invokestatic 31, 3) := by decide +kernel
theorem d_Room_headOfFrame_8 : decode b_Room_headOfFrame 8 = .ok (.ireturn, 1) := by decide +kernel
abbrev rm_Room_headOfFrame : Room := { frames := 1, cells := 0, slots := 0, locals := 22 }
set_option maxHeartbeats 4000000 in
set_option maxRecDepth 100000 in
theorem c_Room_headOfFrame {l : Launch} {dC : Nat → ClassId} {dI : Nat → Nat → Nat} {a : Nat → Nat} {cI : ClassId} {L : Nat} {tt : Nat → Nat} {σ : St} {x0 : Int32} {q : Int32 × St} (h : fRoom_headOfFrame L σ x0 = some q) : CI l (dC, dI) clA (tyX cI) (SXx tt) (wX a cI L σ) (wX a cI L q.2) y_Room_headOfFrame b_Room_headOfFrame 1 (some .int) rm_Room_headOfFrame [.int x0] q.1 := by
  refine CI_of (by decide) (Nat.le_of_ble_eq_true rfl) ?_
  intro pr e s m below meth c A ls C hr hl hI
  have hx := C.1
  have hb := C.2.1
  have hl : lv_has ls 1 [(0, .int x0)] := hl
  unfold fRoom_headOfFrame at h
  refine lv_iconst (v := 4) hx hb d_Room_headOfFrame_0 (by decide) ?_
  refine lv_iload_n hx hb d_Room_headOfFrame_1 rfl (lv_at hl 0 rfl) ?_
  refine lv_iadd hx hb d_Room_headOfFrame_2 ?_
  refine lv_iconst (v := 4) hx hb d_Room_headOfFrame_3 (by decide) ?_
  refine lv_iconst (v := 4) hx hb d_Room_headOfFrame_4 (by decide) ?_
  obtain ⟨p5, hp5, h⟩ := of_bind h
  refine rb_callSI sxok C (c_Room_headOf hp5) cw_Room_31 ⟨Nat.le_of_ble_eq_true rfl, Nat.le_of_ble_eq_true rfl⟩ ⟨rfl, rfl⟩ hI ⟨Nat.zero_le _, Nat.zero_le _⟩ (As := [.int ((4 : Int32) + x0), .int 4, .int 4]) rfl hl.1 (rest := []) (Nat.le_of_ble_eq_true rfl) rfl d_Room_headOfFrame_5 (fun H locs hI => ?_)
  replace h := Option.some.inj h
  subst h
  exact rb_retI C hr hI d_Room_headOfFrame_8
theorem d_Room_methodOfFrame_0 : decode b_Room_methodOfFrame 0 = .ok (.iload_n 0, 1) := by decide +kernel
theorem d_Room_methodOfFrame_1 : decode b_Room_methodOfFrame 1 = .ok (.iconst 4, 1) := by decide +kernel
theorem d_Room_methodOfFrame_2 : decode b_Room_methodOfFrame 2 = .ok (.isub, 1) := by decide +kernel
theorem d_Room_methodOfFrame_3 : decode b_Room_methodOfFrame 3 = .ok (.ireturn, 1) := by decide +kernel
abbrev rm_Room_methodOfFrame : Room := { frames := 0, cells := 0, slots := 0, locals := 0 }
set_option maxHeartbeats 4000000 in
set_option maxRecDepth 100000 in
theorem c_Room_methodOfFrame {l : Launch} {dC : Nat → ClassId} {dI : Nat → Nat → Nat} {a : Nat → Nat} {cI : ClassId} {L : Nat} {tt : Nat → Nat} {σ : St} {x0 : Int32} {q : Int32 × St} (h : fRoom_methodOfFrame L σ x0 = some q) : CI l (dC, dI) clA (tyX cI) (SXx tt) (wX a cI L σ) (wX a cI L q.2) y_Room_methodOfFrame b_Room_methodOfFrame 1 (some .int) rm_Room_methodOfFrame [.int x0] q.1 := by
  refine CI_of (by decide) (Nat.le_of_ble_eq_true rfl) ?_
  intro pr e s m below meth c A ls C hr hl hI
  have hx := C.1
  have hb := C.2.1
  have hl : lv_has ls 1 [(0, .int x0)] := hl
  unfold fRoom_methodOfFrame at h
  refine lv_iload_n hx hb d_Room_methodOfFrame_0 rfl (lv_at hl 0 rfl) ?_
  refine lv_iconst (v := 4) hx hb d_Room_methodOfFrame_1 (by decide) ?_
  refine lv_isub hx hb d_Room_methodOfFrame_2 ?_
  replace h := Option.some.inj h
  subst h
  exact rb_retI C hr hI d_Room_methodOfFrame_3
theorem d_Room_refsIn_0 : decode b_Room_refsIn 0 = .ok (.iload_n 0, 1) := by decide +kernel
theorem d_Room_refsIn_1 : decode b_Room_refsIn 1 = .ok (.iconst 3, 1) := by decide +kernel
theorem d_Room_refsIn_2 : decode b_Room_refsIn 2 = .ok (.ishr, 1) := by decide +kernel
theorem d_Room_refsIn_3 : decode b_Room_refsIn 3 = .ok (.bipush 7, 2) := by decide +kernel
theorem d_Room_refsIn_5 : decode b_Room_refsIn 5 = .ok (.iand, 1) := by decide +kernel
theorem d_Room_refsIn_6 : decode b_Room_refsIn 6 = .ok (.ireturn, 1) := by decide +kernel
abbrev rm_Room_refsIn : Room := { frames := 0, cells := 0, slots := 0, locals := 0 }
set_option maxHeartbeats 4000000 in
set_option maxRecDepth 100000 in
theorem c_Room_refsIn {l : Launch} {dC : Nat → ClassId} {dI : Nat → Nat → Nat} {a : Nat → Nat} {cI : ClassId} {L : Nat} {tt : Nat → Nat} {σ : St} {x0 : Int32} {q : Int32 × St} (h : fRoom_refsIn L σ x0 = some q) : CI l (dC, dI) clA (tyX cI) (SXx tt) (wX a cI L σ) (wX a cI L q.2) y_Room_refsIn b_Room_refsIn 1 (some .int) rm_Room_refsIn [.int x0] q.1 := by
  refine CI_of (by decide) (Nat.le_of_ble_eq_true rfl) ?_
  intro pr e s m below meth c A ls C hr hl hI
  have hx := C.1
  have hb := C.2.1
  have hl : lv_has ls 1 [(0, .int x0)] := hl
  unfold fRoom_refsIn at h
  refine lv_iload_n hx hb d_Room_refsIn_0 rfl (lv_at hl 0 rfl) ?_
  refine lv_iconst (v := 3) hx hb d_Room_refsIn_1 (by decide) ?_
  refine lv_ishr hx hb d_Room_refsIn_2 ?_
  refine lv_bipush (v := 7) hx hb d_Room_refsIn_3 (by decide) ?_
  refine lv_iand hx hb d_Room_refsIn_5 ?_
  replace h := Option.some.inj h
  subst h
  exact rb_retI C hr hI d_Room_refsIn_6
theorem d_Room_sizeIn_0 : decode b_Room_sizeIn 0 = .ok (.iconst 1, 1) := by decide +kernel
theorem d_Room_sizeIn_1 : decode b_Room_sizeIn 1 = .ok (.iload_n 0, 1) := by decide +kernel
theorem d_Room_sizeIn_2 : decode b_Room_sizeIn 2 = .ok (.iconst 3, 1) := by decide +kernel
theorem d_Room_sizeIn_3 : decode b_Room_sizeIn 3 = .ok (.ishr, 1) := by decide +kernel
theorem d_Room_sizeIn_4 : decode b_Room_sizeIn 4 = .ok (.bipush 7, 2) := by decide +kernel
theorem d_Room_sizeIn_6 : decode b_Room_sizeIn 6 = .ok (.iand, 1) := by decide +kernel
theorem d_Room_sizeIn_7 : decode b_Room_sizeIn 7 = .ok (.iadd, 1) := by decide +kernel
theorem d_Room_sizeIn_8 : decode b_Room_sizeIn 8 = .ok (.iload_n 0, 1) := by decide +kernel
theorem d_Room_sizeIn_9 : decode b_Room_sizeIn 9 = .ok (.bipush 7, 2) := by decide +kernel
theorem d_Room_sizeIn_11 : decode b_Room_sizeIn 11 = .ok (.iand, 1) := by decide +kernel
theorem d_Room_sizeIn_12 : decode b_Room_sizeIn 12 = .ok (.iadd, 1) := by decide +kernel
theorem d_Room_sizeIn_13 : decode b_Room_sizeIn 13 = .ok (.ireturn, 1) := by decide +kernel
abbrev rm_Room_sizeIn : Room := { frames := 0, cells := 0, slots := 0, locals := 0 }
set_option maxHeartbeats 4000000 in
set_option maxRecDepth 100000 in
theorem c_Room_sizeIn {l : Launch} {dC : Nat → ClassId} {dI : Nat → Nat → Nat} {a : Nat → Nat} {cI : ClassId} {L : Nat} {tt : Nat → Nat} {σ : St} {x0 : Int32} {q : Int32 × St} (h : fRoom_sizeIn L σ x0 = some q) : CI l (dC, dI) clA (tyX cI) (SXx tt) (wX a cI L σ) (wX a cI L q.2) y_Room_sizeIn b_Room_sizeIn 1 (some .int) rm_Room_sizeIn [.int x0] q.1 := by
  refine CI_of (by decide) (Nat.le_of_ble_eq_true rfl) ?_
  intro pr e s m below meth c A ls C hr hl hI
  have hx := C.1
  have hb := C.2.1
  have hl : lv_has ls 1 [(0, .int x0)] := hl
  unfold fRoom_sizeIn at h
  refine lv_iconst (v := 1) hx hb d_Room_sizeIn_0 (by decide) ?_
  refine lv_iload_n hx hb d_Room_sizeIn_1 rfl (lv_at hl 0 rfl) ?_
  refine lv_iconst (v := 3) hx hb d_Room_sizeIn_2 (by decide) ?_
  refine lv_ishr hx hb d_Room_sizeIn_3 ?_
  refine lv_bipush (v := 7) hx hb d_Room_sizeIn_4 (by decide) ?_
  refine lv_iand hx hb d_Room_sizeIn_6 ?_
  refine lv_iadd hx hb d_Room_sizeIn_7 ?_
  refine lv_iload_n hx hb d_Room_sizeIn_8 rfl (lv_at hl 0 rfl) ?_
  refine lv_bipush (v := 7) hx hb d_Room_sizeIn_9 (by decide) ?_
  refine lv_iand hx hb d_Room_sizeIn_11 ?_
  refine lv_iadd hx hb d_Room_sizeIn_12 ?_
  replace h := Option.some.inj h
  subst h
  exact rb_retI C hr hI d_Room_sizeIn_13
theorem d_Room_cellsToScan_0 : decode b_Room_cellsToScan 0 = .ok (.aload_n 0, 1) := by decide +kernel
theorem d_Room_cellsToScan_1 : decode b_Room_cellsToScan 1 = .ok (.getfield 57, 3) := by decide +kernel
theorem d_Room_cellsToScan_4 : decode b_Room_cellsToScan 4 = .ok (.aload_n 0, 1) := by decide +kernel
theorem d_Room_cellsToScan_5 : decode b_Room_cellsToScan 5 = .ok (.getfield 60, 3) := by decide +kernel
theorem d_Room_cellsToScan_8 : decode b_Room_cellsToScan 8 = .ok (.isub, 1) := by decide +kernel
theorem d_Room_cellsToScan_9 : decode b_Room_cellsToScan 9 = .ok (.ireturn, 1) := by decide +kernel
abbrev rm_Room_cellsToScan : Room := { frames := 0, cells := 0, slots := 0, locals := 0 }
set_option maxHeartbeats 4000000 in
set_option maxRecDepth 100000 in
theorem c_Room_cellsToScan {l : Launch} {dC : Nat → ClassId} {dI : Nat → Nat → Nat} {a : Nat → Nat} {cI : ClassId} {L : Nat} {tt : Nat → Nat} {σ : St} {q : Int32 × St} (h : fRoom_cellsToScan L σ = some q) : CI l (dC, dI) clA (tyX cI) (SXx tt) (wX a cI L σ) (wX a cI L q.2) y_Room_cellsToScan b_Room_cellsToScan 1 (some .int) rm_Room_cellsToScan [.ref (a 3)] q.1 := by
  refine CI_of (by decide) (Nat.le_of_ble_eq_true rfl) ?_
  intro pr e s m below meth c A ls C hr hl hI
  have hx := C.1
  have hb := C.2.1
  have hl : lv_has ls 1 [(0, .ref (a 3))] := hl
  unfold fRoom_cellsToScan at h
  refine lv_aload_n hx hb d_Room_cellsToScan_0 rfl (lv_at hl 0 rfl) ?_
  refine gf_Room_57 C hI (v := σ.1 13) rfl d_Room_cellsToScan_1 ?_
  refine lv_aload_n hx hb d_Room_cellsToScan_4 rfl (lv_at hl 0 rfl) ?_
  refine gf_Room_60 C hI (v := σ.1 14) rfl d_Room_cellsToScan_5 ?_
  refine lv_isub hx hb d_Room_cellsToScan_8 ?_
  replace h := Option.some.inj h
  subst h
  exact rb_retI C hr hI d_Room_cellsToScan_9
theorem d_Room_idOf_0 : decode b_Room_idOf 0 = .ok (.aload_n 0, 1) := by decide +kernel
theorem d_Room_idOf_1 : decode b_Room_idOf 1 = .ok (.getfield 18, 3) := by decide +kernel
theorem d_Room_idOf_4 : decode b_Room_idOf 4 = .ok (.iload_n 1, 1) := by decide +kernel
theorem d_Room_idOf_5 : decode b_Room_idOf 5 = .ok (.iaload, 1) := by decide +kernel
theorem d_Room_idOf_6 : decode b_Room_idOf 6 = .ok (.bipush 6, 2) := by decide +kernel
theorem d_Room_idOf_8 : decode b_Room_idOf 8 = .ok (.ishr, 1) := by decide +kernel
theorem d_Room_idOf_9 : decode b_Room_idOf 9 = .ok (.ireturn, 1) := by decide +kernel
abbrev rm_Room_idOf : Room := { frames := 0, cells := 0, slots := 0, locals := 0 }
set_option maxHeartbeats 4000000 in
set_option maxRecDepth 100000 in
theorem c_Room_idOf {l : Launch} {dC : Nat → ClassId} {dI : Nat → Nat → Nat} {a : Nat → Nat} {cI : ClassId} {L : Nat} {tt : Nat → Nat} {σ : St} {x1 : Int32} {q : Int32 × St} (h : fRoom_idOf L σ x1 = some q) : CI l (dC, dI) clA (tyX cI) (SXx tt) (wX a cI L σ) (wX a cI L q.2) y_Room_idOf b_Room_idOf 2 (some .int) rm_Room_idOf [.ref (a 3), .int x1] q.1 := by
  refine CI_of (by decide) (Nat.le_of_ble_eq_true rfl) ?_
  intro pr e s m below meth c A ls C hr hl hI
  have hx := C.1
  have hb := C.2.1
  have hl : lv_has ls 2 [(0, .ref (a 3)), (1, .int x1)] := hl
  unfold fRoom_idOf at h
  refine lv_aload_n hx hb d_Room_idOf_0 rfl (lv_at hl 0 rfl) ?_
  refine gf_Room_18 C hI d_Room_idOf_1 ?_
  refine lv_iload_n hx hb d_Room_idOf_4 rfl (lv_at hl 1 rfl) ?_
  obtain ⟨hg5, h⟩ := of_guard h
  refine al_X_10 C hI (f := σ.2 10) rfl hg5 d_Room_idOf_5 ?_
  refine lv_bipush (v := 6) hx hb d_Room_idOf_6 (by decide) ?_
  refine lv_ishr hx hb d_Room_idOf_8 ?_
  replace h := Option.some.inj h
  subst h
  exact rb_retI C hr hI d_Room_idOf_9
theorem d_Room_refsOf_0 : decode b_Room_refsOf 0 = .ok (.aload_n 0, 1) := by decide +kernel
theorem d_Room_refsOf_1 : decode b_Room_refsOf 1 = .ok (.getfield 18, 3) := by decide +kernel
theorem d_Room_refsOf_4 : decode b_Room_refsOf 4 = .ok (.iload_n 1, 1) := by decide +kernel
theorem d_Room_refsOf_5 : decode b_Room_refsOf 5 = .ok (.iaload, 1) := by decide +kernel
theorem d_Room_refsOf_6 : decode b_Room_refsOf 6 = .ok (.invokestatic 63, 3) := by decide +kernel
theorem d_Room_refsOf_9 : decode b_Room_refsOf 9 = .ok (.ireturn, 1) := by decide +kernel
abbrev rm_Room_refsOf : Room := { frames := 1, cells := 0, slots := 0, locals := 20 }
set_option maxHeartbeats 4000000 in
set_option maxRecDepth 100000 in
theorem c_Room_refsOf {l : Launch} {dC : Nat → ClassId} {dI : Nat → Nat → Nat} {a : Nat → Nat} {cI : ClassId} {L : Nat} {tt : Nat → Nat} {σ : St} {x1 : Int32} {q : Int32 × St} (h : fRoom_refsOf L σ x1 = some q) : CI l (dC, dI) clA (tyX cI) (SXx tt) (wX a cI L σ) (wX a cI L q.2) y_Room_refsOf b_Room_refsOf 2 (some .int) rm_Room_refsOf [.ref (a 3), .int x1] q.1 := by
  refine CI_of (by decide) (Nat.le_of_ble_eq_true rfl) ?_
  intro pr e s m below meth c A ls C hr hl hI
  have hx := C.1
  have hb := C.2.1
  have hl : lv_has ls 2 [(0, .ref (a 3)), (1, .int x1)] := hl
  unfold fRoom_refsOf at h
  refine lv_aload_n hx hb d_Room_refsOf_0 rfl (lv_at hl 0 rfl) ?_
  refine gf_Room_18 C hI d_Room_refsOf_1 ?_
  refine lv_iload_n hx hb d_Room_refsOf_4 rfl (lv_at hl 1 rfl) ?_
  obtain ⟨hg5, h⟩ := of_guard h
  refine al_X_10 C hI (f := σ.2 10) rfl hg5 d_Room_refsOf_5 ?_
  obtain ⟨p6, hp6, h⟩ := of_bind h
  refine rb_callSI sxok C (c_Room_refsIn hp6) cw_Room_63 ⟨Nat.le_of_ble_eq_true rfl, Nat.le_of_ble_eq_true rfl⟩ ⟨rfl, rfl⟩ hI ⟨Nat.zero_le _, Nat.zero_le _⟩ (As := [.int ((σ.2 10) x1.toNatClampNeg)]) rfl hl.1 (rest := []) (Nat.le_of_ble_eq_true rfl) rfl d_Room_refsOf_6 (fun H locs hI => ?_)
  replace h := Option.some.inj h
  subst h
  exact rb_retI C hr hI d_Room_refsOf_9
theorem d_Room_intsOf_0 : decode b_Room_intsOf 0 = .ok (.aload_n 0, 1) := by decide +kernel
theorem d_Room_intsOf_1 : decode b_Room_intsOf 1 = .ok (.getfield 18, 3) := by decide +kernel
theorem d_Room_intsOf_4 : decode b_Room_intsOf 4 = .ok (.iload_n 1, 1) := by decide +kernel
theorem d_Room_intsOf_5 : decode b_Room_intsOf 5 = .ok (.iaload, 1) := by decide +kernel
theorem d_Room_intsOf_6 : decode b_Room_intsOf 6 = .ok (.bipush 7, 2) := by decide +kernel
theorem d_Room_intsOf_8 : decode b_Room_intsOf 8 = .ok (.iand, 1) := by decide +kernel
theorem d_Room_intsOf_9 : decode b_Room_intsOf 9 = .ok (.ireturn, 1) := by decide +kernel
abbrev rm_Room_intsOf : Room := { frames := 0, cells := 0, slots := 0, locals := 0 }
set_option maxHeartbeats 4000000 in
set_option maxRecDepth 100000 in
theorem c_Room_intsOf {l : Launch} {dC : Nat → ClassId} {dI : Nat → Nat → Nat} {a : Nat → Nat} {cI : ClassId} {L : Nat} {tt : Nat → Nat} {σ : St} {x1 : Int32} {q : Int32 × St} (h : fRoom_intsOf L σ x1 = some q) : CI l (dC, dI) clA (tyX cI) (SXx tt) (wX a cI L σ) (wX a cI L q.2) y_Room_intsOf b_Room_intsOf 2 (some .int) rm_Room_intsOf [.ref (a 3), .int x1] q.1 := by
  refine CI_of (by decide) (Nat.le_of_ble_eq_true rfl) ?_
  intro pr e s m below meth c A ls C hr hl hI
  have hx := C.1
  have hb := C.2.1
  have hl : lv_has ls 2 [(0, .ref (a 3)), (1, .int x1)] := hl
  unfold fRoom_intsOf at h
  refine lv_aload_n hx hb d_Room_intsOf_0 rfl (lv_at hl 0 rfl) ?_
  refine gf_Room_18 C hI d_Room_intsOf_1 ?_
  refine lv_iload_n hx hb d_Room_intsOf_4 rfl (lv_at hl 1 rfl) ?_
  obtain ⟨hg5, h⟩ := of_guard h
  refine al_X_10 C hI (f := σ.2 10) rfl hg5 d_Room_intsOf_5 ?_
  refine lv_bipush (v := 7) hx hb d_Room_intsOf_6 (by decide) ?_
  refine lv_iand hx hb d_Room_intsOf_8 ?_
  replace h := Option.some.inj h
  subst h
  exact rb_retI C hr hI d_Room_intsOf_9
theorem d_Room_intOf_0 : decode b_Room_intOf 0 = .ok (.aload_n 0, 1) := by decide +kernel
theorem d_Room_intOf_1 : decode b_Room_intOf 1 = .ok (.getfield 18, 3) := by decide +kernel
theorem d_Room_intOf_4 : decode b_Room_intOf 4 = .ok (.iload_n 1, 1) := by decide +kernel
theorem d_Room_intOf_5 : decode b_Room_intOf 5 = .ok (.iconst 1, 1) := by decide +kernel
theorem d_Room_intOf_6 : decode b_Room_intOf 6 = .ok (.iadd, 1) := by decide +kernel
theorem d_Room_intOf_7 : decode b_Room_intOf 7 = .ok (.aload_n 0, 1) := by decide +kernel
theorem d_Room_intOf_8 : decode b_Room_intOf 8 = .ok (.iload_n 1, 1) := by decide +kernel
theorem d_Room_intOf_9 : decode b_Room_intOf 9 = .ok (.invokevirtual 66, 3) := by decide +kernel
theorem d_Room_intOf_12 : decode b_Room_intOf 12 = .ok (.iadd, 1) := by decide +kernel
theorem d_Room_intOf_13 : decode b_Room_intOf 13 = .ok (.iload_n 2, 1) := by decide +kernel
theorem d_Room_intOf_14 : decode b_Room_intOf 14 = .ok (.iadd, 1) := by decide +kernel
theorem d_Room_intOf_15 : decode b_Room_intOf 15 = .ok (.iaload, 1) := by decide +kernel
theorem d_Room_intOf_16 : decode b_Room_intOf 16 = .ok (.ireturn, 1) := by decide +kernel
abbrev rm_Room_intOf : Room := { frames := 2, cells := 0, slots := 0, locals := 41 }
set_option maxHeartbeats 4000000 in
set_option maxRecDepth 100000 in
theorem c_Room_intOf {l : Launch} {dC : Nat → ClassId} {dI : Nat → Nat → Nat} {a : Nat → Nat} {cI : ClassId} {L : Nat} {tt : Nat → Nat} {σ : St} {x1 x2 : Int32} {q : Int32 × St} (h : fRoom_intOf L σ x1 x2 = some q) : CI l (dC, dI) clA (tyX cI) (SXx tt) (wX a cI L σ) (wX a cI L q.2) y_Room_intOf b_Room_intOf 3 (some .int) rm_Room_intOf [.ref (a 3), .int x1, .int x2] q.1 := by
  refine CI_of (by decide) (Nat.le_of_ble_eq_true rfl) ?_
  intro pr e s m below meth c A ls C hr hl hI
  have hx := C.1
  have hb := C.2.1
  have hl : lv_has ls 3 [(0, .ref (a 3)), (1, .int x1), (2, .int x2)] := hl
  unfold fRoom_intOf at h
  refine lv_aload_n hx hb d_Room_intOf_0 rfl (lv_at hl 0 rfl) ?_
  refine gf_Room_18 C hI d_Room_intOf_1 ?_
  refine lv_iload_n hx hb d_Room_intOf_4 rfl (lv_at hl 1 rfl) ?_
  refine lv_iconst (v := 1) hx hb d_Room_intOf_5 (by decide) ?_
  refine lv_iadd hx hb d_Room_intOf_6 ?_
  refine lv_aload_n hx hb d_Room_intOf_7 rfl (lv_at hl 0 rfl) ?_
  refine lv_iload_n hx hb d_Room_intOf_8 rfl (lv_at hl 1 rfl) ?_
  obtain ⟨p9, hp9, h⟩ := of_bind h
  refine rb_callI sxok C (c_Room_refsOf hp9) cw_Room_66 ⟨Nat.le_of_ble_eq_true rfl, Nat.le_of_ble_eq_true rfl⟩ ⟨rfl, rfl⟩ (q0 := 3) (ci := 3) rfl rfl hI ⟨Nat.zero_le _, Nat.zero_le _⟩ (As := [.int x1]) rfl hl.1 (rest := [.int (x1 + 1), .ref (a 14)]) (Nat.le_of_ble_eq_true rfl) rfl d_Room_intOf_9 (fun H locs hI => ?_)
  refine lv_iadd hx hb d_Room_intOf_12 ?_
  refine lv_iload_n hx hb d_Room_intOf_13 rfl (lv_at hl 2 rfl) ?_
  refine lv_iadd hx hb d_Room_intOf_14 ?_
  obtain ⟨hg15, h⟩ := of_guard h
  refine al_X_10 C hI (f := p9.2.2 10) rfl hg15 d_Room_intOf_15 ?_
  replace h := Option.some.inj h
  subst h
  exact rb_retI C hr hI d_Room_intOf_16
theorem d_Room_setInt_0 : decode b_Room_setInt 0 = .ok (.aload_n 0, 1) := by decide +kernel
theorem d_Room_setInt_1 : decode b_Room_setInt 1 = .ok (.getfield 18, 3) := by decide +kernel
theorem d_Room_setInt_4 : decode b_Room_setInt 4 = .ok (.iload_n 1, 1) := by decide +kernel
theorem d_Room_setInt_5 : decode b_Room_setInt 5 = .ok (.iconst 1, 1) := by decide +kernel
theorem d_Room_setInt_6 : decode b_Room_setInt 6 = .ok (.iadd, 1) := by decide +kernel
theorem d_Room_setInt_7 : decode b_Room_setInt 7 = .ok (.aload_n 0, 1) := by decide +kernel
theorem d_Room_setInt_8 : decode b_Room_setInt 8 = .ok (.iload_n 1, 1) := by decide +kernel
theorem d_Room_setInt_9 : decode b_Room_setInt 9 = .ok (.invokevirtual 66, 3) := by decide +kernel
theorem d_Room_setInt_12 : decode b_Room_setInt 12 = .ok (.iadd, 1) := by decide +kernel
theorem d_Room_setInt_13 : decode b_Room_setInt 13 = .ok (.iload_n 2, 1) := by decide +kernel
theorem d_Room_setInt_14 : decode b_Room_setInt 14 = .ok (.iadd, 1) := by decide +kernel
theorem d_Room_setInt_15 : decode b_Room_setInt 15 = .ok (.iload_n 3, 1) := by decide +kernel
theorem d_Room_setInt_16 : decode b_Room_setInt 16 = .ok (.iastore, 1) := by decide +kernel
theorem d_Room_setInt_17 : decode b_Room_setInt 17 = .ok (.return_, 1) := by decide +kernel
abbrev rm_Room_setInt : Room := { frames := 2, cells := 0, slots := 0, locals := 41 }
set_option maxHeartbeats 4000000 in
set_option maxRecDepth 100000 in
theorem c_Room_setInt {l : Launch} {dC : Nat → ClassId} {dI : Nat → Nat → Nat} {a : Nat → Nat} {cI : ClassId} {L : Nat} {tt : Nat → Nat} {σ : St} {x1 x2 x3 : Int32} {q : St} (h : fRoom_setInt L σ x1 x2 x3 = some q) : CV l (dC, dI) clA (tyX cI) (SXx tt) (wX a cI L σ) (wX a cI L q) y_Room_setInt b_Room_setInt 4 none rm_Room_setInt [.ref (a 3), .int x1, .int x2, .int x3] := by
  refine CV_of (by decide) (Nat.le_of_ble_eq_true rfl) ?_
  intro pr e s m below meth c A ls C hr hl hI
  have hx := C.1
  have hb := C.2.1
  have hl : lv_has ls 4 [(0, .ref (a 3)), (1, .int x1), (2, .int x2), (3, .int x3)] := hl
  unfold fRoom_setInt at h
  refine lv_aload_n hx hb d_Room_setInt_0 rfl (lv_at hl 0 rfl) ?_
  refine gf_Room_18 C hI d_Room_setInt_1 ?_
  refine lv_iload_n hx hb d_Room_setInt_4 rfl (lv_at hl 1 rfl) ?_
  refine lv_iconst (v := 1) hx hb d_Room_setInt_5 (by decide) ?_
  refine lv_iadd hx hb d_Room_setInt_6 ?_
  refine lv_aload_n hx hb d_Room_setInt_7 rfl (lv_at hl 0 rfl) ?_
  refine lv_iload_n hx hb d_Room_setInt_8 rfl (lv_at hl 1 rfl) ?_
  obtain ⟨p9, hp9, h⟩ := of_bind h
  refine rb_callI sxok C (c_Room_refsOf hp9) cw_Room_66 ⟨Nat.le_of_ble_eq_true rfl, Nat.le_of_ble_eq_true rfl⟩ ⟨rfl, rfl⟩ (q0 := 3) (ci := 3) rfl rfl hI ⟨Nat.zero_le _, Nat.zero_le _⟩ (As := [.int x1]) rfl hl.1 (rest := [.int (x1 + 1), .ref (a 14)]) (Nat.le_of_ble_eq_true rfl) rfl d_Room_setInt_9 (fun H locs hI => ?_)
  refine lv_iadd hx hb d_Room_setInt_12 ?_
  refine lv_iload_n hx hb d_Room_setInt_13 rfl (lv_at hl 2 rfl) ?_
  refine lv_iadd hx hb d_Room_setInt_14 ?_
  refine lv_iload_n hx hb d_Room_setInt_15 rfl (lv_at hl 3 rfl) ?_
  obtain ⟨hg16, h⟩ := of_guard h
  refine as_X_10 C hI (σ' := (p9.2.1, va_up p9.2.2 10 (upd (p9.2.2 10) (((x1 + 1) + p9.1) + x2).toNatClampNeg x3))) rfl hg16 d_Room_setInt_16 (fun H locs hI => ?_)
  replace h := Option.some.inj h
  subst h
  exact rb_retV C hr hI d_Room_setInt_17
theorem d_Room_setRef_0 : decode b_Room_setRef 0 = .ok (.aload_n 0, 1) := by decide +kernel
theorem d_Room_setRef_1 : decode b_Room_setRef 1 = .ok (.getfield 18, 3) := by decide +kernel
theorem d_Room_setRef_4 : decode b_Room_setRef 4 = .ok (.iload_n 1, 1) := by decide +kernel
theorem d_Room_setRef_5 : decode b_Room_setRef 5 = .ok (.iconst 1, 1) := by decide +kernel
theorem d_Room_setRef_6 : decode b_Room_setRef 6 = .ok (.iadd, 1) := by decide +kernel
theorem d_Room_setRef_7 : decode b_Room_setRef 7 = .ok (.iload_n 2, 1) := by decide +kernel
theorem d_Room_setRef_8 : decode b_Room_setRef 8 = .ok (.iadd, 1) := by decide +kernel
theorem d_Room_setRef_9 : decode b_Room_setRef 9 = .ok (.iload_n 3, 1) := by decide +kernel
theorem d_Room_setRef_10 : decode b_Room_setRef 10 = .ok (.iastore, 1) := by decide +kernel
theorem d_Room_setRef_11 : decode b_Room_setRef 11 = .ok (.return_, 1) := by decide +kernel
abbrev rm_Room_setRef : Room := { frames := 0, cells := 0, slots := 0, locals := 0 }
set_option maxHeartbeats 4000000 in
set_option maxRecDepth 100000 in
theorem c_Room_setRef {l : Launch} {dC : Nat → ClassId} {dI : Nat → Nat → Nat} {a : Nat → Nat} {cI : ClassId} {L : Nat} {tt : Nat → Nat} {σ : St} {x1 x2 x3 : Int32} {q : St} (h : fRoom_setRef L σ x1 x2 x3 = some q) : CV l (dC, dI) clA (tyX cI) (SXx tt) (wX a cI L σ) (wX a cI L q) y_Room_setRef b_Room_setRef 4 none rm_Room_setRef [.ref (a 3), .int x1, .int x2, .int x3] := by
  refine CV_of (by decide) (Nat.le_of_ble_eq_true rfl) ?_
  intro pr e s m below meth c A ls C hr hl hI
  have hx := C.1
  have hb := C.2.1
  have hl : lv_has ls 4 [(0, .ref (a 3)), (1, .int x1), (2, .int x2), (3, .int x3)] := hl
  unfold fRoom_setRef at h
  refine lv_aload_n hx hb d_Room_setRef_0 rfl (lv_at hl 0 rfl) ?_
  refine gf_Room_18 C hI d_Room_setRef_1 ?_
  refine lv_iload_n hx hb d_Room_setRef_4 rfl (lv_at hl 1 rfl) ?_
  refine lv_iconst (v := 1) hx hb d_Room_setRef_5 (by decide) ?_
  refine lv_iadd hx hb d_Room_setRef_6 ?_
  refine lv_iload_n hx hb d_Room_setRef_7 rfl (lv_at hl 2 rfl) ?_
  refine lv_iadd hx hb d_Room_setRef_8 ?_
  refine lv_iload_n hx hb d_Room_setRef_9 rfl (lv_at hl 3 rfl) ?_
  obtain ⟨hg10, h⟩ := of_guard h
  refine as_X_10 C hI (σ' := (σ.1, va_up σ.2 10 (upd (σ.2 10) ((x1 + 1) + x2).toNatClampNeg x3))) rfl hg10 d_Room_setRef_10 (fun H locs hI => ?_)
  replace h := Option.some.inj h
  subst h
  exact rb_retV C hr hI d_Room_setRef_11
theorem d_Room_noteFound_0 : decode b_Room_noteFound 0 = .ok (.iload_n 1, 1) := by decide +kernel
theorem d_Room_noteFound_1 : decode b_Room_noteFound 1 = .ok (.iconst (-1), 1) := by decide +kernel
theorem d_Room_noteFound_2 : decode b_Room_noteFound 2 = .ok (.if_icmp .eq 13, 3) := by decide +kernel
theorem d_Room_noteFound_5 : decode b_Room_noteFound 5 = .ok (.aload_n 0, 1) := by decide +kernel
theorem d_Room_noteFound_6 : decode b_Room_noteFound 6 = .ok (.getfield 25, 3) := by decide +kernel
theorem d_Room_noteFound_9 : decode b_Room_noteFound 9 = .ok (.iload_n 1, 1) := by decide +kernel
theorem d_Room_noteFound_10 : decode b_Room_noteFound 10 = .ok (.iaload, 1) := by decide +kernel
theorem d_Room_noteFound_11 : decode b_Room_noteFound 11 = .ok (.iconst 1, 1) := by decide +kernel
theorem d_Room_noteFound_12 : decode b_Room_noteFound 12 = .ok (.if_icmp .ne 5, 3) := by decide +kernel
theorem d_Room_noteFound_15 : decode b_Room_noteFound 15 = .ok (.iload_n 2, 1) := by decide +kernel
theorem d_Room_noteFound_16 : decode b_Room_noteFound 16 = .ok (.ireturn, 1) := by decide +kernel
theorem d_Room_noteFound_17 : decode b_Room_noteFound 17 = .ok (.aload_n 0, 1) := by decide +kernel
theorem d_Room_noteFound_18 : decode b_Room_noteFound 18 = .ok (.getfield 25, 3) := by decide +kernel
theorem d_Room_noteFound_21 : decode b_Room_noteFound 21 = .ok (.iload_n 1, 1) := by decide +kernel
theorem d_Room_noteFound_22 : decode b_Room_noteFound 22 = .ok (.iconst 1, 1) := by decide +kernel
theorem d_Room_noteFound_23 : decode b_Room_noteFound 23 = .ok (.iastore, 1) := by decide +kernel
theorem d_Room_noteFound_24 : decode b_Room_noteFound 24 = .ok (.aload_n 0, 1) := by decide +kernel
theorem d_Room_noteFound_25 : decode b_Room_noteFound 25 = .ok (.getfield 22, 3) := by decide +kernel
theorem d_Room_noteFound_28 : decode b_Room_noteFound 28 = .ok (.iload_n 2, 1) := by decide +kernel
theorem d_Room_noteFound_29 : decode b_Room_noteFound 29 = .ok (.iload_n 1, 1) := by decide +kernel
theorem d_Room_noteFound_30 : decode b_Room_noteFound 30 = .ok (.iastore, 1) := by decide +kernel
theorem d_Room_noteFound_31 : decode b_Room_noteFound 31 = .ok (.iload_n 2, 1) := by decide +kernel
theorem d_Room_noteFound_32 : decode b_Room_noteFound 32 = .ok (.iconst 1, 1) := by decide +kernel
theorem d_Room_noteFound_33 : decode b_Room_noteFound 33 = .ok (.iadd, 1) := by decide +kernel
theorem d_Room_noteFound_34 : decode b_Room_noteFound 34 = .ok (.ireturn, 1) := by decide +kernel
abbrev rm_Room_noteFound : Room := { frames := 0, cells := 0, slots := 0, locals := 0 }
set_option maxHeartbeats 4000000 in
set_option maxRecDepth 100000 in
theorem c_Room_noteFound {l : Launch} {dC : Nat → ClassId} {dI : Nat → Nat → Nat} {a : Nat → Nat} {cI : ClassId} {L : Nat} {tt : Nat → Nat} {σ : St} {x1 x2 : Int32} {q : Int32 × St} (h : fRoom_noteFound L σ x1 x2 = some q) : CI l (dC, dI) clA (tyX cI) (SXx tt) (wX a cI L σ) (wX a cI L q.2) y_Room_noteFound b_Room_noteFound 3 (some .int) rm_Room_noteFound [.ref (a 3), .int x1, .int x2] q.1 := by
  refine CI_of (by decide) (Nat.le_of_ble_eq_true rfl) ?_
  intro pr e s m below meth c A ls C hr hl hI
  have hx := C.1
  have hb := C.2.1
  have hl : lv_has ls 3 [(0, .ref (a 3)), (1, .int x1), (2, .int x2)] := hl
  unfold fRoom_noteFound at h
  refine lv_iload_n hx hb d_Room_noteFound_0 rfl (lv_at hl 1 rfl) ?_
  refine lv_iconst (v := (-1)) hx hb d_Room_noteFound_1 (by decide) ?_
  refine lv_icmp_eq (tgt := 15) hx hb d_Room_noteFound_2 (by decide) (fun hc => ?_) (fun hc => ?_)
  · replace h := of_pos hc h
    refine lv_iload_n hx hb d_Room_noteFound_15 rfl (lv_at hl 2 rfl) ?_
    replace h := Option.some.inj h
    subst h
    exact rb_retI C hr hI d_Room_noteFound_16
  · replace h := of_neg hc h
    refine lv_aload_n hx hb d_Room_noteFound_5 rfl (lv_at hl 0 rfl) ?_
    refine gf_Room_25 C hI d_Room_noteFound_6 ?_
    refine lv_iload_n hx hb d_Room_noteFound_9 rfl (lv_at hl 1 rfl) ?_
    obtain ⟨hg10, h⟩ := of_guard h
    refine al_X_12 C hI (f := σ.2 12) rfl hg10 d_Room_noteFound_10 ?_
    refine lv_iconst (v := 1) hx hb d_Room_noteFound_11 (by decide) ?_
    refine lv_icmp_ne (tgt := 17) hx hb d_Room_noteFound_12 (by decide) (fun hc => ?_) (fun hc => ?_)
    · replace h := of_neg hc h
      refine lv_aload_n hx hb d_Room_noteFound_17 rfl (lv_at hl 0 rfl) ?_
      refine gf_Room_25 C hI d_Room_noteFound_18 ?_
      refine lv_iload_n hx hb d_Room_noteFound_21 rfl (lv_at hl 1 rfl) ?_
      refine lv_iconst (v := 1) hx hb d_Room_noteFound_22 (by decide) ?_
      obtain ⟨hg23, h⟩ := of_guard h
      refine as_X_12 C hI (σ' := (σ.1, va_up σ.2 12 (upd (σ.2 12) x1.toNatClampNeg 1))) rfl hg23 d_Room_noteFound_23 (fun H locs hI => ?_)
      refine lv_aload_n hx hb d_Room_noteFound_24 rfl (lv_at hl 0 rfl) ?_
      refine gf_Room_22 C hI d_Room_noteFound_25 ?_
      refine lv_iload_n hx hb d_Room_noteFound_28 rfl (lv_at hl 2 rfl) ?_
      refine lv_iload_n hx hb d_Room_noteFound_29 rfl (lv_at hl 1 rfl) ?_
      obtain ⟨hg30, h⟩ := of_guard h
      refine as_X_11 C hI (σ' := (σ.1, va_up (va_up σ.2 12 (upd (σ.2 12) x1.toNatClampNeg 1)) 11 (upd (σ.2 11) x2.toNatClampNeg x1))) rfl hg30 d_Room_noteFound_30 (fun H locs hI => ?_)
      refine lv_iload_n hx hb d_Room_noteFound_31 rfl (lv_at hl 2 rfl) ?_
      refine lv_iconst (v := 1) hx hb d_Room_noteFound_32 (by decide) ?_
      refine lv_iadd hx hb d_Room_noteFound_33 ?_
      replace h := Option.some.inj h
      subst h
      exact rb_retI C hr hI d_Room_noteFound_34
    · replace h := of_pos hc h
      refine lv_iload_n hx hb d_Room_noteFound_15 rfl (lv_at hl 2 rfl) ?_
      replace h := Option.some.inj h
      subst h
      exact rb_retI C hr hI d_Room_noteFound_16
theorem d_Room_freeCells_0 : decode b_Room_freeCells 0 = .ok (.aload_n 0, 1) := by decide +kernel
theorem d_Room_freeCells_1 : decode b_Room_freeCells 1 = .ok (.getfield 84, 3) := by decide +kernel
theorem d_Room_freeCells_4 : decode b_Room_freeCells 4 = .ok (.aload_n 0, 1) := by decide +kernel
theorem d_Room_freeCells_5 : decode b_Room_freeCells 5 = .ok (.getfield 57, 3) := by decide +kernel
theorem d_Room_freeCells_8 : decode b_Room_freeCells 8 = .ok (.isub, 1) := by decide +kernel
theorem d_Room_freeCells_9 : decode b_Room_freeCells 9 = .ok (.ireturn, 1) := by decide +kernel
abbrev rm_Room_freeCells : Room := { frames := 0, cells := 0, slots := 0, locals := 0 }
set_option maxHeartbeats 4000000 in
set_option maxRecDepth 100000 in
theorem c_Room_freeCells {l : Launch} {dC : Nat → ClassId} {dI : Nat → Nat → Nat} {a : Nat → Nat} {cI : ClassId} {L : Nat} {tt : Nat → Nat} {σ : St} {q : Int32 × St} (h : fRoom_freeCells L σ = some q) : CI l (dC, dI) clA (tyX cI) (SXx tt) (wX a cI L σ) (wX a cI L q.2) y_Room_freeCells b_Room_freeCells 1 (some .int) rm_Room_freeCells [.ref (a 3)] q.1 := by
  refine CI_of (by decide) (Nat.le_of_ble_eq_true rfl) ?_
  intro pr e s m below meth c A ls C hr hl hI
  have hx := C.1
  have hb := C.2.1
  have hl : lv_has ls 1 [(0, .ref (a 3))] := hl
  unfold fRoom_freeCells at h
  refine lv_aload_n hx hb d_Room_freeCells_0 rfl (lv_at hl 0 rfl) ?_
  refine gf_Room_84 C hI (v := σ.1 17) rfl d_Room_freeCells_1 ?_
  refine lv_aload_n hx hb d_Room_freeCells_4 rfl (lv_at hl 0 rfl) ?_
  refine gf_Room_57 C hI (v := σ.1 13) rfl d_Room_freeCells_5 ?_
  refine lv_isub hx hb d_Room_freeCells_8 ?_
  replace h := Option.some.inj h
  subst h
  exact rb_retI C hr hI d_Room_freeCells_9
theorem d_Room_usedCells_0 : decode b_Room_usedCells 0 = .ok (.aload_n 0, 1) := by decide +kernel
theorem d_Room_usedCells_1 : decode b_Room_usedCells 1 = .ok (.getfield 9, 3) := by decide +kernel
theorem d_Room_usedCells_4 : decode b_Room_usedCells 4 = .ok (.aload_n 0, 1) := by decide +kernel
theorem d_Room_usedCells_5 : decode b_Room_usedCells 5 = .ok (.invokevirtual 53, 3) := by decide +kernel
theorem d_Room_usedCells_8 : decode b_Room_usedCells 8 = .ok (.isub, 1) := by decide +kernel
theorem d_Room_usedCells_9 : decode b_Room_usedCells 9 = .ok (.ireturn, 1) := by decide +kernel
abbrev rm_Room_usedCells : Room := { frames := 1, cells := 0, slots := 0, locals := 20 }
set_option maxHeartbeats 4000000 in
set_option maxRecDepth 100000 in
theorem c_Room_usedCells {l : Launch} {dC : Nat → ClassId} {dI : Nat → Nat → Nat} {a : Nat → Nat} {cI : ClassId} {L : Nat} {tt : Nat → Nat} {σ : St} {q : Int32 × St} (h : fRoom_usedCells L σ = some q) : CI l (dC, dI) clA (tyX cI) (SXx tt) (wX a cI L σ) (wX a cI L q.2) y_Room_usedCells b_Room_usedCells 1 (some .int) rm_Room_usedCells [.ref (a 3)] q.1 := by
  refine CI_of (by decide) (Nat.le_of_ble_eq_true rfl) ?_
  intro pr e s m below meth c A ls C hr hl hI
  have hx := C.1
  have hb := C.2.1
  have hl : lv_has ls 1 [(0, .ref (a 3))] := hl
  unfold fRoom_usedCells at h
  refine lv_aload_n hx hb d_Room_usedCells_0 rfl (lv_at hl 0 rfl) ?_
  refine gf_Room_9 C hI (v := σ.1 9) rfl d_Room_usedCells_1 ?_
  refine lv_aload_n hx hb d_Room_usedCells_4 rfl (lv_at hl 0 rfl) ?_
  obtain ⟨p5, hp5, h⟩ := of_bind h
  refine rb_callI sxok C (c_Room_freeCells hp5) cw_Room_53 ⟨Nat.le_of_ble_eq_true rfl, Nat.le_of_ble_eq_true rfl⟩ ⟨rfl, rfl⟩ (q0 := 3) (ci := 3) rfl rfl hI ⟨Nat.zero_le _, Nat.zero_le _⟩ (As := []) rfl hl.1 (rest := [.int (σ.1 9)]) (Nat.le_of_ble_eq_true rfl) rfl d_Room_usedCells_5 (fun H locs hI => ?_)
  refine lv_isub hx hb d_Room_usedCells_8 ?_
  replace h := Option.some.inj h
  subst h
  exact rb_retI C hr hI d_Room_usedCells_9
theorem d_Room_useSpace_0 : decode b_Room_useSpace 0 = .ok (.aload_n 0, 1) := by decide +kernel
theorem d_Room_useSpace_1 : decode b_Room_useSpace 1 = .ok (.iload_n 1, 1) := by decide +kernel
theorem d_Room_useSpace_2 : decode b_Room_useSpace 2 = .ok (.putfield 94, 3) := by decide +kernel
theorem d_Room_useSpace_5 : decode b_Room_useSpace 5 = .ok (.aload_n 0, 1) := by decide +kernel
theorem d_Room_useSpace_6 : decode b_Room_useSpace 6 = .ok (.iload_n 1, 1) := by decide +kernel
theorem d_Room_useSpace_7 : decode b_Room_useSpace 7 = .ok (.putfield 57, 3) := by decide +kernel
theorem d_Room_useSpace_10 : decode b_Room_useSpace 10 = .ok (.aload_n 0, 1) := by decide +kernel
theorem d_Room_useSpace_11 : decode b_Room_useSpace 11 = .ok (.iload_n 1, 1) := by decide +kernel
theorem d_Room_useSpace_12 : decode b_Room_useSpace 12 = .ok (.putfield 60, 3) := by decide +kernel
theorem d_Room_useSpace_15 : decode b_Room_useSpace 15 = .ok (.aload_n 0, 1) := by decide +kernel
theorem d_Room_useSpace_16 : decode b_Room_useSpace 16 = .ok (.iload_n 1, 1) := by decide +kernel
theorem d_Room_useSpace_17 : decode b_Room_useSpace 17 = .ok (.putfield 97, 3) := by decide +kernel
theorem d_Room_useSpace_20 : decode b_Room_useSpace 20 = .ok (.aload_n 0, 1) := by decide +kernel
theorem d_Room_useSpace_21 : decode b_Room_useSpace 21 = .ok (.iload_n 1, 1) := by decide +kernel
theorem d_Room_useSpace_22 : decode b_Room_useSpace 22 = .ok (.putfield 100, 3) := by decide +kernel
theorem d_Room_useSpace_25 : decode b_Room_useSpace 25 = .ok (.aload_n 0, 1) := by decide +kernel
theorem d_Room_useSpace_26 : decode b_Room_useSpace 26 = .ok (.iload_n 1, 1) := by decide +kernel
theorem d_Room_useSpace_27 : decode b_Room_useSpace 27 = .ok (.aload_n 0, 1) := by decide +kernel
theorem d_Room_useSpace_28 : decode b_Room_useSpace 28 = .ok (.getfield 9, 3) := by decide +kernel
theorem d_Room_useSpace_31 : decode b_Room_useSpace 31 = .ok (.iadd, 1) := by decide +kernel
theorem d_Room_useSpace_32 : decode b_Room_useSpace 32 = .ok (.putfield 84, 3) := by decide +kernel
theorem d_Room_useSpace_35 : decode b_Room_useSpace 35 = .ok (.return_, 1) := by decide +kernel
abbrev rm_Room_useSpace : Room := { frames := 0, cells := 0, slots := 0, locals := 0 }
set_option maxHeartbeats 4000000 in
set_option maxRecDepth 100000 in
theorem c_Room_useSpace {l : Launch} {dC : Nat → ClassId} {dI : Nat → Nat → Nat} {a : Nat → Nat} {cI : ClassId} {L : Nat} {tt : Nat → Nat} {σ : St} {x1 : Int32} {q : St} (h : fRoom_useSpace L σ x1 = some q) : CV l (dC, dI) clA (tyX cI) (SXx tt) (wX a cI L σ) (wX a cI L q) y_Room_useSpace b_Room_useSpace 2 none rm_Room_useSpace [.ref (a 3), .int x1] := by
  refine CV_of (by decide) (Nat.le_of_ble_eq_true rfl) ?_
  intro pr e s m below meth c A ls C hr hl hI
  have hx := C.1
  have hb := C.2.1
  have hl : lv_has ls 2 [(0, .ref (a 3)), (1, .int x1)] := hl
  unfold fRoom_useSpace at h
  refine lv_aload_n hx hb d_Room_useSpace_0 rfl (lv_at hl 0 rfl) ?_
  refine lv_iload_n hx hb d_Room_useSpace_1 rfl (lv_at hl 1 rfl) ?_
  refine pf_Room_94 C hI (σ' := (upd σ.1 12 x1, σ.2)) rfl d_Room_useSpace_2 (fun H locs hI => ?_)
  refine lv_aload_n hx hb d_Room_useSpace_5 rfl (lv_at hl 0 rfl) ?_
  refine lv_iload_n hx hb d_Room_useSpace_6 rfl (lv_at hl 1 rfl) ?_
  refine pf_Room_57 C hI (σ' := (upd (upd σ.1 12 x1) 13 x1, σ.2)) rfl d_Room_useSpace_7 (fun H locs hI => ?_)
  refine lv_aload_n hx hb d_Room_useSpace_10 rfl (lv_at hl 0 rfl) ?_
  refine lv_iload_n hx hb d_Room_useSpace_11 rfl (lv_at hl 1 rfl) ?_
  refine pf_Room_60 C hI (σ' := (upd (upd (upd σ.1 12 x1) 13 x1) 14 x1, σ.2)) rfl d_Room_useSpace_12 (fun H locs hI => ?_)
  refine lv_aload_n hx hb d_Room_useSpace_15 rfl (lv_at hl 0 rfl) ?_
  refine lv_iload_n hx hb d_Room_useSpace_16 rfl (lv_at hl 1 rfl) ?_
  refine pf_Room_97 C hI (σ' := (upd (upd (upd (upd σ.1 12 x1) 13 x1) 14 x1) 15 x1, σ.2)) rfl d_Room_useSpace_17 (fun H locs hI => ?_)
  refine lv_aload_n hx hb d_Room_useSpace_20 rfl (lv_at hl 0 rfl) ?_
  refine lv_iload_n hx hb d_Room_useSpace_21 rfl (lv_at hl 1 rfl) ?_
  refine pf_Room_100 C hI (σ' := (upd (upd (upd (upd (upd σ.1 12 x1) 13 x1) 14 x1) 15 x1) 16 x1, σ.2)) rfl d_Room_useSpace_22 (fun H locs hI => ?_)
  refine lv_aload_n hx hb d_Room_useSpace_25 rfl (lv_at hl 0 rfl) ?_
  refine lv_iload_n hx hb d_Room_useSpace_26 rfl (lv_at hl 1 rfl) ?_
  refine lv_aload_n hx hb d_Room_useSpace_27 rfl (lv_at hl 0 rfl) ?_
  refine gf_Room_9 C hI (v := σ.1 9) rfl d_Room_useSpace_28 ?_
  refine lv_iadd hx hb d_Room_useSpace_31 ?_
  refine pf_Room_84 C hI (σ' := (upd (upd (upd (upd (upd (upd σ.1 12 x1) 13 x1) 14 x1) 15 x1) 16 x1) 17 (x1 + (σ.1 9)), σ.2)) rfl d_Room_useSpace_32 (fun H locs hI => ?_)
  replace h := Option.some.inj h
  subst h
  exact rb_retV C hr hI d_Room_useSpace_35
theorem d_Room_movedTo_0 : decode b_Room_movedTo 0 = .ok (.iconst (-1), 1) := by decide +kernel
theorem d_Room_movedTo_1 : decode b_Room_movedTo 1 = .ok (.aload_n 0, 1) := by decide +kernel
theorem d_Room_movedTo_2 : decode b_Room_movedTo 2 = .ok (.getfield 18, 3) := by decide +kernel
theorem d_Room_movedTo_5 : decode b_Room_movedTo 5 = .ok (.iload_n 1, 1) := by decide +kernel
theorem d_Room_movedTo_6 : decode b_Room_movedTo 6 = .ok (.iaload, 1) := by decide +kernel
theorem d_Room_movedTo_7 : decode b_Room_movedTo 7 = .ok (.isub, 1) := by decide +kernel
theorem d_Room_movedTo_8 : decode b_Room_movedTo 8 = .ok (.ireturn, 1) := by decide +kernel
abbrev rm_Room_movedTo : Room := { frames := 0, cells := 0, slots := 0, locals := 0 }
set_option maxHeartbeats 4000000 in
set_option maxRecDepth 100000 in
theorem c_Room_movedTo {l : Launch} {dC : Nat → ClassId} {dI : Nat → Nat → Nat} {a : Nat → Nat} {cI : ClassId} {L : Nat} {tt : Nat → Nat} {σ : St} {x1 : Int32} {q : Int32 × St} (h : fRoom_movedTo L σ x1 = some q) : CI l (dC, dI) clA (tyX cI) (SXx tt) (wX a cI L σ) (wX a cI L q.2) y_Room_movedTo b_Room_movedTo 2 (some .int) rm_Room_movedTo [.ref (a 3), .int x1] q.1 := by
  refine CI_of (by decide) (Nat.le_of_ble_eq_true rfl) ?_
  intro pr e s m below meth c A ls C hr hl hI
  have hx := C.1
  have hb := C.2.1
  have hl : lv_has ls 2 [(0, .ref (a 3)), (1, .int x1)] := hl
  unfold fRoom_movedTo at h
  refine lv_iconst (v := (-1)) hx hb d_Room_movedTo_0 (by decide) ?_
  refine lv_aload_n hx hb d_Room_movedTo_1 rfl (lv_at hl 0 rfl) ?_
  refine gf_Room_18 C hI d_Room_movedTo_2 ?_
  refine lv_iload_n hx hb d_Room_movedTo_5 rfl (lv_at hl 1 rfl) ?_
  obtain ⟨hg6, h⟩ := of_guard h
  refine al_X_10 C hI (f := σ.2 10) rfl hg6 d_Room_movedTo_6 ?_
  refine lv_isub hx hb d_Room_movedTo_7 ?_
  replace h := Option.some.inj h
  subst h
  exact rb_retI C hr hI d_Room_movedTo_8
theorem d_Room_peekRef_0 : decode b_Room_peekRef 0 = .ok (.aload_n 0, 1) := by decide +kernel
theorem d_Room_peekRef_1 : decode b_Room_peekRef 1 = .ok (.getfield 18, 3) := by decide +kernel
theorem d_Room_peekRef_4 : decode b_Room_peekRef 4 = .ok (.iload_n 1, 1) := by decide +kernel
theorem d_Room_peekRef_5 : decode b_Room_peekRef 5 = .ok (.iconst 1, 1) := by decide +kernel
theorem d_Room_peekRef_6 : decode b_Room_peekRef 6 = .ok (.iadd, 1) := by decide +kernel
theorem d_Room_peekRef_7 : decode b_Room_peekRef 7 = .ok (.iload_n 2, 1) := by decide +kernel
theorem d_Room_peekRef_8 : decode b_Room_peekRef 8 = .ok (.iadd, 1) := by decide +kernel
theorem d_Room_peekRef_9 : decode b_Room_peekRef 9 = .ok (.iaload, 1) := by decide +kernel
theorem d_Room_peekRef_10 : decode b_Room_peekRef 10 = .ok (.istore_n 3, 1) := by decide +kernel
theorem d_Room_peekRef_11 : decode b_Room_peekRef 11 = .ok (.iload_n 3, 1) := by decide +kernel
theorem d_Room_peekRef_12 : decode b_Room_peekRef 12 = .ok (.iconst (-1), 1) := by decide +kernel
theorem d_Room_peekRef_13 : decode b_Room_peekRef 13 = .ok (.if_icmp .eq 20, 3) := by decide +kernel
theorem d_Room_peekRef_16 : decode b_Room_peekRef 16 = .ok (.aload_n 0, 1) := by decide +kernel
theorem d_Room_peekRef_17 : decode b_Room_peekRef 17 = .ok (.getfield 18, 3) := by decide +kernel
theorem d_Room_peekRef_20 : decode b_Room_peekRef 20 = .ok (.iload_n 3, 1) := by decide +kernel
theorem d_Room_peekRef_21 : decode b_Room_peekRef 21 = .ok (.iaload, 1) := by decide +kernel
theorem d_Room_peekRef_22 : decode b_Room_peekRef 22 = .ok (.ifCond .ge 11, 3) := by decide +kernel
theorem d_Room_peekRef_25 : decode b_Room_peekRef 25 = .ok (.aload_n 0, 1) := by decide +kernel
theorem d_Room_peekRef_26 : decode b_Room_peekRef 26 = .ok (.iload_n 3, 1) := by decide +kernel
theorem d_Room_peekRef_27 : decode b_Room_peekRef 27 = .ok (.invokevirtual 72, 3) := by decide +kernel
theorem d_Room_peekRef_30 : decode b_Room_peekRef 30 = .ok (.goto 4, 3) := by decide +kernel
theorem d_Room_peekRef_33 : decode b_Room_peekRef 33 = .ok (.iload_n 3, 1) := by decide +kernel
theorem d_Room_peekRef_34 : decode b_Room_peekRef 34 = .ok (.ireturn, 1) := by decide +kernel
abbrev rm_Room_peekRef : Room := { frames := 1, cells := 0, slots := 0, locals := 21 }
set_option maxHeartbeats 4000000 in
set_option maxRecDepth 100000 in
theorem c_Room_peekRef {l : Launch} {dC : Nat → ClassId} {dI : Nat → Nat → Nat} {a : Nat → Nat} {cI : ClassId} {L : Nat} {tt : Nat → Nat} {σ : St} {x1 x2 : Int32} {q : Int32 × St} (h : fRoom_peekRef L σ x1 x2 = some q) : CI l (dC, dI) clA (tyX cI) (SXx tt) (wX a cI L σ) (wX a cI L q.2) y_Room_peekRef b_Room_peekRef 4 (some .int) rm_Room_peekRef [.ref (a 3), .int x1, .int x2] q.1 := by
  refine CI_of (by decide) (Nat.le_of_ble_eq_true rfl) ?_
  intro pr e s m below meth c A ls C hr hl hI
  have hx := C.1
  have hb := C.2.1
  have hl : lv_has ls 4 [(0, .ref (a 3)), (1, .int x1), (2, .int x2)] := hl
  unfold fRoom_peekRef at h
  refine lv_aload_n hx hb d_Room_peekRef_0 rfl (lv_at hl 0 rfl) ?_
  refine gf_Room_18 C hI d_Room_peekRef_1 ?_
  refine lv_iload_n hx hb d_Room_peekRef_4 rfl (lv_at hl 1 rfl) ?_
  refine lv_iconst (v := 1) hx hb d_Room_peekRef_5 (by decide) ?_
  refine lv_iadd hx hb d_Room_peekRef_6 ?_
  refine lv_iload_n hx hb d_Room_peekRef_7 rfl (lv_at hl 2 rfl) ?_
  refine lv_iadd hx hb d_Room_peekRef_8 ?_
  obtain ⟨hg9, h⟩ := of_guard h
  refine al_X_10 C hI (f := σ.2 10) rfl hg9 d_Room_peekRef_9 ?_
  refine lv_istore_n (lv' := [(3, .int ((σ.2 10) ((x1 + 1) + x2).toNatClampNeg)), (0, .ref (a 3)), (1, .int x1), (2, .int x2)]) hx hb d_Room_peekRef_10 rfl hl (by decide) rfl (fun ls hl => ?_)
  refine lv_iload_n hx hb d_Room_peekRef_11 rfl (lv_at hl 0 rfl) ?_
  refine lv_iconst (v := (-1)) hx hb d_Room_peekRef_12 (by decide) ?_
  refine lv_icmp_eq (tgt := 33) hx hb d_Room_peekRef_13 (by decide) (fun hc => ?_) (fun hc => ?_)
  · replace h := of_pos hc h
    refine lv_iload_n hx hb d_Room_peekRef_33 rfl (lv_at hl 0 rfl) ?_
    replace h := Option.some.inj h
    subst h
    exact rb_retI C hr hI d_Room_peekRef_34
  · replace h := of_neg hc h
    refine lv_aload_n hx hb d_Room_peekRef_16 rfl (lv_at hl 1 rfl) ?_
    refine gf_Room_18 C hI d_Room_peekRef_17 ?_
    refine lv_iload_n hx hb d_Room_peekRef_20 rfl (lv_at hl 0 rfl) ?_
    obtain ⟨hg21, h⟩ := of_guard h
    refine al_X_10 C hI (f := σ.2 10) rfl hg21 d_Room_peekRef_21 ?_
    refine lv_if_ge (tgt := 33) hx hb d_Room_peekRef_22 (by decide) (fun hc => ?_) (fun hc => ?_)
    · replace h := of_pos hc h
      refine lv_iload_n hx hb d_Room_peekRef_33 rfl (lv_at hl 0 rfl) ?_
      replace h := Option.some.inj h
      subst h
      exact rb_retI C hr hI d_Room_peekRef_34
    · replace h := of_neg hc h
      refine lv_aload_n hx hb d_Room_peekRef_25 rfl (lv_at hl 1 rfl) ?_
      refine lv_iload_n hx hb d_Room_peekRef_26 rfl (lv_at hl 0 rfl) ?_
      obtain ⟨p27, hp27, h⟩ := of_bind h
      refine rb_callI sxok C (c_Room_movedTo hp27) cw_Room_72 ⟨Nat.le_of_ble_eq_true rfl, Nat.le_of_ble_eq_true rfl⟩ ⟨rfl, rfl⟩ (q0 := 3) (ci := 3) rfl rfl hI ⟨Nat.zero_le _, Nat.zero_le _⟩ (As := [.int ((σ.2 10) ((x1 + 1) + x2).toNatClampNeg)]) rfl hl.1 (rest := []) (Nat.le_of_ble_eq_true rfl) rfl d_Room_peekRef_27 (fun H locs hI => ?_)
      refine lv_goto (tgt := 34) hx hb d_Room_peekRef_30 (by decide) ?_
      replace h := Option.some.inj h
      subst h
      exact rb_retI C hr hI d_Room_peekRef_34
theorem d_Room_countFrames_0 : decode b_Room_countFrames 0 = .ok (.iconst 0, 1) := by decide +kernel
theorem d_Room_countFrames_1 : decode b_Room_countFrames 1 = .ok (.istore_n 1, 1) := by decide +kernel
theorem d_Room_countFrames_2 : decode b_Room_countFrames 2 = .ok (.aload_n 0, 1) := by decide +kernel
theorem d_Room_countFrames_3 : decode b_Room_countFrames 3 = .ok (.getfield 28, 3) := by decide +kernel
theorem d_Room_countFrames_6 : decode b_Room_countFrames 6 = .ok (.istore_n 2, 1) := by decide +kernel
theorem d_Room_countFrames_7 : decode b_Room_countFrames 7 = .ok (.iload_n 2, 1) := by decide +kernel
theorem d_Room_countFrames_8 : decode b_Room_countFrames 8 = .ok (.iconst (-1), 1) := by decide +kernel
theorem d_Room_countFrames_9 : decode b_Room_countFrames 9 = .ok (.if_icmp .eq 25, 3) := by decide +kernel
theorem d_Room_countFrames_12 : decode b_Room_countFrames 12 = .ok (.iload_n 1, 1) := by decide +kernel
theorem d_Room_countFrames_13 : decode b_Room_countFrames 13 = .ok (.aload_n 0, 1) := by decide +kernel
theorem d_Room_countFrames_14 : decode b_Room_countFrames 14 = .ok (.getfield 18, 3) := by decide +kernel
theorem d_Room_countFrames_17 : decode b_Room_countFrames 17 = .ok (.arraylength, 1) := by decide +kernel
theorem d_Room_countFrames_18 : decode b_Room_countFrames 18 = .ok (.if_icmp .ge 16, 3) := by decide +kernel
theorem d_Room_countFrames_21 : decode b_Room_countFrames 21 = .ok (.iinc 1 1, 3) := by decide +kernel
theorem d_Room_countFrames_24 : decode b_Room_countFrames 24 = .ok (.aload_n 0, 1) := by decide +kernel
theorem d_Room_countFrames_25 : decode b_Room_countFrames 25 = .ok (.iload_n 2, 1) := by decide +kernel
theorem d_Room_countFrames_26 : decode b_Room_countFrames 26 = .ok (.iconst 3, 1) := by decide +kernel
theorem d_Room_countFrames_27 : decode b_Room_countFrames 27 = .ok (.invokevirtual 87, 3) := by decide +kernel
theorem d_Room_countFrames_30 : decode b_Room_countFrames 30 = .ok (.istore_n 2, 1) := by decide +kernel
theorem d_Room_countFrames_31 : decode b_Room_countFrames 31 = .ok (.goto (-24), 3) := by decide +kernel
theorem d_Room_countFrames_34 : decode b_Room_countFrames 34 = .ok (.iload_n 1, 1) := by decide +kernel
theorem d_Room_countFrames_35 : decode b_Room_countFrames 35 = .ok (.ireturn, 1) := by decide +kernel
abbrev rm_Room_countFrames : Room := { frames := 2, cells := 0, slots := 0, locals := 44 }
set_option maxHeartbeats 4000000 in
set_option maxRecDepth 100000 in
theorem b_Room_countFrames_B7 {l : Launch} {dC : Nat → ClassId} {dI : Nat → Nat → Nat} {a : Nat → Nat} {cI : ClassId} {L : Nat} {tt : Nat → Nat} {pr : Program} {e : Env} {s : State} {m : MethodId} {args : Array Value} {below : List Frame} {meth : Method} {c : Code} {A : Nat → Prop} {ls : Array Slot} {H : Heap} {locs : List Loc} {s0 : Int32 × Int32 × St} {q : Nat × (Int32 × Int32 × St)} {Q : State → Prop} (C : Cx (dC, dI) clA (tyX cI) (SXx tt) pr s m args meth c b_Room_countFrames 3 y_Room_countFrames.cls A) (h : fRoom_countFrames_B7 L s0 = some q) (hl : lv_has ls 3 [(0, .ref (a 3)), (1, .int s0.1), (2, .int s0.2.1)]) (hI : Wi (dC, dI) clA (wX a cI L s0.2.2) s A H locs) (kC : q.1 = 1 → ∀ (ls : Array Slot) (H : Heap) (locs : List Loc), lv_has ls 3 [(0, .ref (a 3)), (1, .int q.2.1), (2, .int q.2.2.1)] → Wi (dC, dI) clA (wX a cI L q.2.2.2) s A H locs → W pr l e rm_Room_countFrames s m args below meth c H locs 0 0 Q (F0 m 7 ls [])) (kX0 : q.1 = 0 → ∀ (ls : Array Slot) (H : Heap) (locs : List Loc), lv_has ls 3 [(0, .ref (a 3)), (1, .int q.2.1), (2, .int q.2.2.1)] → Wi (dC, dI) clA (wX a cI L q.2.2.2) s A H locs → W pr l e rm_Room_countFrames s m args below meth c H locs 0 0 Q (F0 m 34 ls [])) : W pr l e rm_Room_countFrames s m args below meth c H locs 0 0 Q (F0 m 7 ls []) := by
  have hx := C.1
  have hb := C.2.1
  unfold fRoom_countFrames_B7 at h
  refine lv_iload_n hx hb d_Room_countFrames_7 rfl (lv_at hl 2 rfl) ?_
  refine lv_iconst (v := (-1)) hx hb d_Room_countFrames_8 (by decide) ?_
  refine lv_icmp_eq (tgt := 34) hx hb d_Room_countFrames_9 (by decide) (fun hc => ?_) (fun hc => ?_)
  · replace h := of_pos hc h
    replace h := Option.some.inj h
    subst h
    exact kX0 rfl _ _ _ (lv_sub hl [0, 1, 2] rfl) hI
  · replace h := of_neg hc h
    refine lv_iload_n hx hb d_Room_countFrames_12 rfl (lv_at hl 1 rfl) ?_
    refine lv_aload_n hx hb d_Room_countFrames_13 rfl (lv_at hl 0 rfl) ?_
    refine gf_Room_18 C hI d_Room_countFrames_14 ?_
    refine ln_X_10 C hI d_Room_countFrames_17 ?_
    refine lv_icmp_ge (tgt := 34) hx hb d_Room_countFrames_18 (by decide) (fun hc => ?_) (fun hc => ?_)
    · replace h := of_pos hc h
      replace h := Option.some.inj h
      subst h
      exact kX0 rfl _ _ _ (lv_sub hl [0, 1, 2] rfl) hI
    · replace h := of_neg hc h
      refine lv_iinc (k := 1) (v := s0.1 + 1) (lv' := [(1, .int (s0.1 + 1)), (0, .ref (a 3)), (2, .int s0.2.1)]) hx hb d_Room_countFrames_21 hl rfl rfl (by decide) rfl (fun ls hl => ?_)
      refine lv_aload_n hx hb d_Room_countFrames_24 rfl (lv_at hl 1 rfl) ?_
      refine lv_iload_n hx hb d_Room_countFrames_25 rfl (lv_at hl 2 rfl) ?_
      refine lv_iconst (v := 3) hx hb d_Room_countFrames_26 (by decide) ?_
      obtain ⟨p27, hp27, h⟩ := of_bind h
      refine rb_callI sxok C (c_Room_peekRef hp27) cw_Room_87 ⟨Nat.le_of_ble_eq_true rfl, Nat.le_of_ble_eq_true rfl⟩ ⟨rfl, rfl⟩ (q0 := 3) (ci := 3) rfl rfl hI ⟨Nat.zero_le _, Nat.zero_le _⟩ (As := [.int s0.2.1, .int 3]) rfl hl.1 (rest := []) (Nat.le_of_ble_eq_true rfl) rfl d_Room_countFrames_27 (fun H locs hI => ?_)
      refine lv_istore_n (lv' := [(2, .int p27.1), (1, .int (s0.1 + 1)), (0, .ref (a 3))]) hx hb d_Room_countFrames_30 rfl hl (by decide) rfl (fun ls hl => ?_)
      refine lv_goto (tgt := 7) hx hb d_Room_countFrames_31 (by decide) ?_
      replace h := Option.some.inj h
      subst h
      exact kC rfl _ _ _ (lv_sub hl [2, 1, 0] rfl) hI
set_option maxHeartbeats 4000000 in
set_option maxRecDepth 100000 in
theorem l_Room_countFrames_B7 {l : Launch} {dC : Nat → ClassId} {dI : Nat → Nat → Nat} {a : Nat → Nat} {cI : ClassId} {L : Nat} {tt : Nat → Nat} {pr : Program} {e : Env} {s : State} {m : MethodId} {args : Array Value} {below : List Frame} {meth : Method} {c : Code} {A : Nat → Prop} {Q : State → Prop} (C : Cx (dC, dI) clA (tyX cI) (SXx tt) pr s m args meth c b_Room_countFrames 3 y_Room_countFrames.cls A) : ∀ (k : Nat) (s0 : Int32 × Int32 × St) (q : Nat × (Int32 × Int32 × St)) (ls : Array Slot) (H : Heap) (locs : List Loc), rbLoop (fRoom_countFrames_B7 L) k s0 = some q → lv_has ls 3 [(0, .ref (a 3)), (1, .int s0.1), (2, .int s0.2.1)] → Wi (dC, dI) clA (wX a cI L s0.2.2) s A H locs → (q.1 = 0 → ∀ (ls : Array Slot) (H : Heap) (locs : List Loc), lv_has ls 3 [(0, .ref (a 3)), (1, .int q.2.1), (2, .int q.2.2.1)] → Wi (dC, dI) clA (wX a cI L q.2.2.2) s A H locs → W pr l e rm_Room_countFrames s m args below meth c H locs 0 0 Q (F0 m 34 ls [])) → W pr l e rm_Room_countFrames s m args below meth c H locs 0 0 Q (F0 m 7 ls []) := by
  intro k
  induction k with
  | zero => intro s0 q ls H locs h; cases h
  | succ k ih =>
    intro s0 q ls H locs h hl hI kX0
    obtain ⟨q1, hq1, h⟩ := rbLoop_succ h
    by_cases hc : q1.1 = 1
    · replace h := of_pos hc h
      refine b_Room_countFrames_B7 C hq1 hl hI (fun _ ls H locs hl hI => ih _ _ _ _ _ h hl hI kX0) (fun hz => absurd (hc.symm.trans hz) (by decide))
    · replace h := of_neg hc h
      cases h
      exact b_Room_countFrames_B7 C hq1 hl hI (fun hz => absurd hz hc) kX0
set_option maxHeartbeats 4000000 in
set_option maxRecDepth 100000 in
theorem c_Room_countFrames {l : Launch} {dC : Nat → ClassId} {dI : Nat → Nat → Nat} {a : Nat → Nat} {cI : ClassId} {L : Nat} {tt : Nat → Nat} {σ : St} {q : Int32 × St} (h : fRoom_countFrames L σ = some q) : CI l (dC, dI) clA (tyX cI) (SXx tt) (wX a cI L σ) (wX a cI L q.2) y_Room_countFrames b_Room_countFrames 3 (some .int) rm_Room_countFrames [.ref (a 3)] q.1 := by
  refine CI_of (by decide) (Nat.le_of_ble_eq_true rfl) ?_
  intro pr e s m below meth c A ls C hr hl hI
  have hx := C.1
  have hb := C.2.1
  have hl : lv_has ls 3 [(0, .ref (a 3))] := hl
  unfold fRoom_countFrames at h
  refine lv_iconst (v := 0) hx hb d_Room_countFrames_0 (by decide) ?_
  refine lv_istore_n (lv' := [(1, .int 0), (0, .ref (a 3))]) hx hb d_Room_countFrames_1 rfl hl (by decide) rfl (fun ls hl => ?_)
  refine lv_aload_n hx hb d_Room_countFrames_2 rfl (lv_at hl 1 rfl) ?_
  refine gf_Room_28 C hI (v := σ.1 11) rfl d_Room_countFrames_3 ?_
  refine lv_istore_n (lv' := [(2, .int (σ.1 11)), (1, .int 0), (0, .ref (a 3))]) hx hb d_Room_countFrames_6 rfl hl (by decide) rfl (fun ls hl => ?_)
  obtain ⟨q7, hq7, h⟩ := of_bind h
  refine l_Room_countFrames_B7 C _ _ _ _ _ _ hq7 (lv_sub hl [2, 1, 0] rfl) hI ?_
  intro _ ls H locs hl hI
  refine lv_iload_n hx hb d_Room_countFrames_34 rfl (lv_at hl 1 rfl) ?_
  replace h := Option.some.inj h
  subst h
  exact rb_retI C hr hI d_Room_countFrames_35
theorem d_Room_moveOld_0 : decode b_Room_moveOld 0 = .ok (.aload_n 0, 1) := by decide +kernel
theorem d_Room_moveOld_1 : decode b_Room_moveOld 1 = .ok (.getfield 18, 3) := by decide +kernel
theorem d_Room_moveOld_4 : decode b_Room_moveOld 4 = .ok (.iload_n 1, 1) := by decide +kernel
theorem d_Room_moveOld_5 : decode b_Room_moveOld 5 = .ok (.iaload, 1) := by decide +kernel
theorem d_Room_moveOld_6 : decode b_Room_moveOld 6 = .ok (.invokestatic 75, 3) := by decide +kernel
theorem d_Room_moveOld_9 : decode b_Room_moveOld 9 = .ok (.istore_n 2, 1) := by decide +kernel
theorem d_Room_moveOld_10 : decode b_Room_moveOld 10 = .ok (.iload_n 2, 1) := by decide +kernel
theorem d_Room_moveOld_11 : decode b_Room_moveOld 11 = .ok (.aload_n 0, 1) := by decide +kernel
theorem d_Room_moveOld_12 : decode b_Room_moveOld 12 = .ok (.invokevirtual 53, 3) := by decide +kernel
theorem d_Room_moveOld_15 : decode b_Room_moveOld 15 = .ok (.if_icmp .le 10, 3) := by decide +kernel
theorem d_Room_moveOld_18 : decode b_Room_moveOld 18 = .ok (.aload_n 0, 1) := by decide +kernel
theorem d_Room_moveOld_19 : decode b_Room_moveOld 19 = .ok (.iconst 1, 1) := by decide +kernel
theorem d_Room_moveOld_20 : decode b_Room_moveOld 20 = .ok (.putfield 42, 3) := by decide +kernel
theorem d_Room_moveOld_23 : decode b_Room_moveOld 23 = .ok (.iload_n 1, 1) := by decide +kernel
theorem d_Room_moveOld_24 : decode b_Room_moveOld 24 = .ok (.ireturn, 1) := by decide +kernel
theorem d_Room_moveOld_25 : decode b_Room_moveOld 25 = .ok (.aload_n 0, 1) := by decide +kernel
theorem d_Room_moveOld_26 : decode b_Room_moveOld 26 = .ok (.getfield 57, 3) := by decide +kernel
theorem d_Room_moveOld_29 : decode b_Room_moveOld 29 = .ok (.istore_n 3, 1) := by decide +kernel
theorem d_Room_moveOld_30 : decode b_Room_moveOld 30 = .ok (.aload_n 0, 1) := by decide +kernel
theorem d_Room_moveOld_31 : decode b_Room_moveOld 31 = .ok (.getfield 18, 3) := by decide +kernel
theorem d_Room_moveOld_34 : decode b_Room_moveOld 34 = .ok (.iload_n 1, 1) := by decide +kernel
theorem d_Room_moveOld_35 : decode b_Room_moveOld 35 = .ok (.aload_n 0, 1) := by decide +kernel
theorem d_Room_moveOld_36 : decode b_Room_moveOld 36 = .ok (.getfield 18, 3) := by decide +kernel
theorem d_Room_moveOld_39 : decode b_Room_moveOld 39 = .ok (.iload_n 3, 1) := by decide +kernel
theorem d_Room_moveOld_40 : decode b_Room_moveOld 40 = .ok (.iload_n 2, 1) := by decide +kernel
theorem d_Room_moveOld_41 : decode b_Room_moveOld 41 = .ok (.invokestatic 109, 3) := by decide +kernel
theorem d_Room_moveOld_44 : decode b_Room_moveOld 44 = .ok (.aload_n 0, 1) := by decide +kernel
theorem d_Room_moveOld_45 : decode b_Room_moveOld 45 = .ok (.getfield 18, 3) := by decide +kernel
theorem d_Room_moveOld_48 : decode b_Room_moveOld 48 = .ok (.iload_n 1, 1) := by decide +kernel
theorem d_Room_moveOld_49 : decode b_Room_moveOld 49 = .ok (.iconst (-1), 1) := by decide +kernel
theorem d_Room_moveOld_50 : decode b_Room_moveOld 50 = .ok (.iload_n 3, 1) := by decide +kernel
theorem d_Room_moveOld_51 : decode b_Room_moveOld 51 = .ok (.isub, 1) := by decide +kernel
theorem d_Room_moveOld_52 : decode b_Room_moveOld 52 = .ok (.iastore, 1) := by decide +kernel
theorem d_Room_moveOld_53 : decode b_Room_moveOld 53 = .ok (.aload_n 0, 1) := by decide +kernel
theorem d_Room_moveOld_54 : decode b_Room_moveOld 54 = .ok (.dup, 1) := by decide +kernel
theorem d_Room_moveOld_55 : decode b_Room_moveOld 55 = .ok (.getfield 57, 3) := by decide +kernel
theorem d_Room_moveOld_58 : decode b_Room_moveOld 58 = .ok (.iload_n 2, 1) := by decide +kernel
theorem d_Room_moveOld_59 : decode b_Room_moveOld 59 = .ok (.iadd, 1) := by decide +kernel
theorem d_Room_moveOld_60 : decode b_Room_moveOld 60 = .ok (.putfield 57, 3) := by decide +kernel
theorem d_Room_moveOld_63 : decode b_Room_moveOld 63 = .ok (.aload_n 0, 1) := by decide +kernel
theorem d_Room_moveOld_64 : decode b_Room_moveOld 64 = .ok (.dup, 1) := by decide +kernel
theorem d_Room_moveOld_65 : decode b_Room_moveOld 65 = .ok (.getfield 103, 3) := by decide +kernel
theorem d_Room_moveOld_68 : decode b_Room_moveOld 68 = .ok (.iload_n 2, 1) := by decide +kernel
theorem d_Room_moveOld_69 : decode b_Room_moveOld 69 = .ok (.iadd, 1) := by decide +kernel
theorem d_Room_moveOld_70 : decode b_Room_moveOld 70 = .ok (.putfield 103, 3) := by decide +kernel
theorem d_Room_moveOld_73 : decode b_Room_moveOld 73 = .ok (.iload_n 3, 1) := by decide +kernel
theorem d_Room_moveOld_74 : decode b_Room_moveOld 74 = .ok (.ireturn, 1) := by decide +kernel
abbrev rm_Room_moveOld : Room := { frames := 1, cells := 0, slots := 0, locals := 64 }
set_option maxHeartbeats 4000000 in
set_option maxRecDepth 100000 in
theorem c_Room_moveOld {l : Launch} {dC : Nat → ClassId} {dI : Nat → Nat → Nat} {a : Nat → Nat} {cI : ClassId} {L : Nat} {tt : Nat → Nat} {σ : St} {x1 : Int32} {q : Int32 × St} (h : fRoom_moveOld L σ x1 = some q) : CI l (dC, dI) clA (tyX cI) (SXx tt) (wX a cI L σ) (wX a cI L q.2) y_Room_moveOld b_Room_moveOld 4 (some .int) rm_Room_moveOld [.ref (a 3), .int x1] q.1 := by
  refine CI_of (by decide) (Nat.le_of_ble_eq_true rfl) ?_
  intro pr e s m below meth c A ls C hr hl hI
  have hx := C.1
  have hb := C.2.1
  have hl : lv_has ls 4 [(0, .ref (a 3)), (1, .int x1)] := hl
  unfold fRoom_moveOld at h
  refine lv_aload_n hx hb d_Room_moveOld_0 rfl (lv_at hl 0 rfl) ?_
  refine gf_Room_18 C hI d_Room_moveOld_1 ?_
  refine lv_iload_n hx hb d_Room_moveOld_4 rfl (lv_at hl 1 rfl) ?_
  obtain ⟨hg5, h⟩ := of_guard h
  refine al_X_10 C hI (f := σ.2 10) rfl hg5 d_Room_moveOld_5 ?_
  obtain ⟨p6, hp6, h⟩ := of_bind h
  refine rb_callSI sxok C (c_Room_sizeIn hp6) cw_Room_75 ⟨Nat.le_of_ble_eq_true rfl, Nat.le_of_ble_eq_true rfl⟩ ⟨rfl, rfl⟩ hI ⟨Nat.zero_le _, Nat.zero_le _⟩ (As := [.int ((σ.2 10) x1.toNatClampNeg)]) rfl hl.1 (rest := []) (Nat.le_of_ble_eq_true rfl) rfl d_Room_moveOld_6 (fun H locs hI => ?_)
  refine lv_istore_n (lv' := [(2, .int p6.1), (0, .ref (a 3)), (1, .int x1)]) hx hb d_Room_moveOld_9 rfl hl (by decide) rfl (fun ls hl => ?_)
  refine lv_iload_n hx hb d_Room_moveOld_10 rfl (lv_at hl 0 rfl) ?_
  refine lv_aload_n hx hb d_Room_moveOld_11 rfl (lv_at hl 1 rfl) ?_
  obtain ⟨p12, hp12, h⟩ := of_bind h
  refine rb_callI sxok C (c_Room_freeCells hp12) cw_Room_53 ⟨Nat.le_of_ble_eq_true rfl, Nat.le_of_ble_eq_true rfl⟩ ⟨rfl, rfl⟩ (q0 := 3) (ci := 3) rfl rfl hI ⟨Nat.zero_le _, Nat.zero_le _⟩ (As := []) rfl hl.1 (rest := [.int p6.1]) (Nat.le_of_ble_eq_true rfl) rfl d_Room_moveOld_12 (fun H locs hI => ?_)
  refine lv_icmp_le (tgt := 25) hx hb d_Room_moveOld_15 (by decide) (fun hc => ?_) (fun hc => ?_)
  · replace h := of_pos hc h
    refine lv_aload_n hx hb d_Room_moveOld_25 rfl (lv_at hl 1 rfl) ?_
    refine gf_Room_57 C hI (v := p12.2.1 13) rfl d_Room_moveOld_26 ?_
    refine lv_istore_n (lv' := [(3, .int (p12.2.1 13)), (2, .int p6.1), (0, .ref (a 3)), (1, .int x1)]) hx hb d_Room_moveOld_29 rfl hl (by decide) rfl (fun ls hl => ?_)
    refine lv_aload_n hx hb d_Room_moveOld_30 rfl (lv_at hl 2 rfl) ?_
    refine gf_Room_18 C hI d_Room_moveOld_31 ?_
    refine lv_iload_n hx hb d_Room_moveOld_34 rfl (lv_at hl 3 rfl) ?_
    refine lv_aload_n hx hb d_Room_moveOld_35 rfl (lv_at hl 2 rfl) ?_
    refine gf_Room_18 C hI d_Room_moveOld_36 ?_
    refine lv_iload_n hx hb d_Room_moveOld_39 rfl (lv_at hl 0 rfl) ?_
    refine lv_iload_n hx hb d_Room_moveOld_40 rfl (lv_at hl 1 rfl) ?_
    obtain ⟨hg41, h⟩ := of_guard h
    refine cp_X_10_109 C hI (σ' := (p12.2.1, va_up p12.2.2 10 (va_cpy (p12.2.2 10) (p12.2.2 10) x1.toNatClampNeg (p12.2.1 13).toNatClampNeg p6.1.toNatClampNeg))) rfl hl.1 hg41 (Nat.le_of_ble_eq_true rfl) (by decide) d_Room_moveOld_41 (fun H locs hI => ?_)
    refine lv_aload_n hx hb d_Room_moveOld_44 rfl (lv_at hl 2 rfl) ?_
    refine gf_Room_18 C hI d_Room_moveOld_45 ?_
    refine lv_iload_n hx hb d_Room_moveOld_48 rfl (lv_at hl 3 rfl) ?_
    refine lv_iconst (v := (-1)) hx hb d_Room_moveOld_49 (by decide) ?_
    refine lv_iload_n hx hb d_Room_moveOld_50 rfl (lv_at hl 0 rfl) ?_
    refine lv_isub hx hb d_Room_moveOld_51 ?_
    obtain ⟨hg52, h⟩ := of_guard h
    refine as_X_10 C hI (σ' := (p12.2.1, va_up (va_up p12.2.2 10 (va_cpy (p12.2.2 10) (p12.2.2 10) x1.toNatClampNeg (p12.2.1 13).toNatClampNeg p6.1.toNatClampNeg)) 10 (upd (va_cpy (p12.2.2 10) (p12.2.2 10) x1.toNatClampNeg (p12.2.1 13).toNatClampNeg p6.1.toNatClampNeg) x1.toNatClampNeg ((-1 : Int32) - (p12.2.1 13))))) rfl hg52 d_Room_moveOld_52 (fun H locs hI => ?_)
    refine lv_aload_n hx hb d_Room_moveOld_53 rfl (lv_at hl 2 rfl) ?_
    refine lv_dup hx hb d_Room_moveOld_54 rfl ?_
    refine gf_Room_57 C hI (v := p12.2.1 13) rfl d_Room_moveOld_55 ?_
    refine lv_iload_n hx hb d_Room_moveOld_58 rfl (lv_at hl 1 rfl) ?_
    refine lv_iadd hx hb d_Room_moveOld_59 ?_
    refine pf_Room_57 C hI (σ' := (upd p12.2.1 13 ((p12.2.1 13) + p6.1), va_up (va_up p12.2.2 10 (va_cpy (p12.2.2 10) (p12.2.2 10) x1.toNatClampNeg (p12.2.1 13).toNatClampNeg p6.1.toNatClampNeg)) 10 (upd (va_cpy (p12.2.2 10) (p12.2.2 10) x1.toNatClampNeg (p12.2.1 13).toNatClampNeg p6.1.toNatClampNeg) x1.toNatClampNeg ((-1 : Int32) - (p12.2.1 13))))) rfl d_Room_moveOld_60 (fun H locs hI => ?_)
    refine lv_aload_n hx hb d_Room_moveOld_63 rfl (lv_at hl 2 rfl) ?_
    refine lv_dup hx hb d_Room_moveOld_64 rfl ?_
    refine gf_Room_103 C hI (v := p12.2.1 19) rfl d_Room_moveOld_65 ?_
    refine lv_iload_n hx hb d_Room_moveOld_68 rfl (lv_at hl 1 rfl) ?_
    refine lv_iadd hx hb d_Room_moveOld_69 ?_
    refine pf_Room_103 C hI (σ' := (upd (upd p12.2.1 13 ((p12.2.1 13) + p6.1)) 19 ((p12.2.1 19) + p6.1), va_up (va_up p12.2.2 10 (va_cpy (p12.2.2 10) (p12.2.2 10) x1.toNatClampNeg (p12.2.1 13).toNatClampNeg p6.1.toNatClampNeg)) 10 (upd (va_cpy (p12.2.2 10) (p12.2.2 10) x1.toNatClampNeg (p12.2.1 13).toNatClampNeg p6.1.toNatClampNeg) x1.toNatClampNeg ((-1 : Int32) - (p12.2.1 13))))) rfl d_Room_moveOld_70 (fun H locs hI => ?_)
    refine lv_iload_n hx hb d_Room_moveOld_73 rfl (lv_at hl 0 rfl) ?_
    replace h := Option.some.inj h
    subst h
    exact rb_retI C hr hI d_Room_moveOld_74
  · replace h := of_neg hc h
    refine lv_aload_n hx hb d_Room_moveOld_18 rfl (lv_at hl 1 rfl) ?_
    refine lv_iconst (v := 1) hx hb d_Room_moveOld_19 (by decide) ?_
    refine pf_Room_42 C hI (σ' := (upd p12.2.1 20 1, p12.2.2)) rfl (by decide) d_Room_moveOld_20 (fun H locs hI => ?_)
    refine lv_iload_n hx hb d_Room_moveOld_23 rfl (lv_at hl 2 rfl) ?_
    replace h := Option.some.inj h
    subst h
    exact rb_retI C hr hI d_Room_moveOld_24
