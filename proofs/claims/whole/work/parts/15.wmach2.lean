theorem d_Mach_kindAt_0 : decode b_Mach_kindAt 0 = .ok (.aload_n 0, 1) := by decide +kernel
theorem d_Mach_kindAt_1 : decode b_Mach_kindAt 1 = .ok (.getfield 45, 3) := by decide +kernel
theorem d_Mach_kindAt_4 : decode b_Mach_kindAt 4 = .ok (.iconst 4, 1) := by decide +kernel
theorem d_Mach_kindAt_5 : decode b_Mach_kindAt 5 = .ok (.if_icmp .eq 10, 3) := by decide +kernel
theorem d_Mach_kindAt_8 : decode b_Mach_kindAt 8 = .ok (.iload_n 1, 1) := by decide +kernel
theorem d_Mach_kindAt_9 : decode b_Mach_kindAt 9 = .ok (.invokestatic 143, 3) := by decide +kernel
theorem d_Mach_kindAt_12 : decode b_Mach_kindAt 12 = .ok (.ifCond .ne 5, 3) := by decide +kernel
theorem d_Mach_kindAt_15 : decode b_Mach_kindAt 15 = .ok (.iconst (-1), 1) := by decide +kernel
theorem d_Mach_kindAt_16 : decode b_Mach_kindAt 16 = .ok (.ireturn, 1) := by decide +kernel
theorem d_Mach_kindAt_17 : decode b_Mach_kindAt 17 = .ok (.aload_n 0, 1) := by decide +kernel
theorem d_Mach_kindAt_18 : decode b_Mach_kindAt 18 = .ok (.getfield 37, 3) := by decide +kernel
theorem d_Mach_kindAt_21 : decode b_Mach_kindAt 21 = .ok (.aload_n 0, 1) := by decide +kernel
theorem d_Mach_kindAt_22 : decode b_Mach_kindAt 22 = .ok (.getfield 37, 3) := by decide +kernel
theorem d_Mach_kindAt_25 : decode b_Mach_kindAt 25 = .ok (.getfield 94, 3) := by decide +kernel
theorem d_Mach_kindAt_28 : decode b_Mach_kindAt 28 = .ok (.iload_n 1, 1) := by decide +kernel
theorem d_Mach_kindAt_29 : decode b_Mach_kindAt 29 = .ok (.invokevirtual 146, 3) := by decide +kernel
theorem d_Mach_kindAt_32 : decode b_Mach_kindAt 32 = .ok (.istore_n 3, 1) := by decide +kernel
theorem d_Mach_kindAt_33 : decode b_Mach_kindAt 33 = .ok (.iload_n 3, 1) := by decide +kernel
theorem d_Mach_kindAt_34 : decode b_Mach_kindAt 34 = .ok (.iconst (-1), 1) := by decide +kernel
theorem d_Mach_kindAt_35 : decode b_Mach_kindAt 35 = .ok (.if_icmp .eq 50, 3) := by decide +kernel
theorem d_Mach_kindAt_38 : decode b_Mach_kindAt 38 = .ok (.iload_n 2, 1) := by decide +kernel
theorem d_Mach_kindAt_39 : decode b_Mach_kindAt 39 = .ok (.iconst (-1), 1) := by decide +kernel
theorem d_Mach_kindAt_40 : decode b_Mach_kindAt 40 = .ok (.if_icmp .eq 45, 3) := by decide +kernel
theorem d_Mach_kindAt_43 : decode b_Mach_kindAt 43 = .ok (.iload_n 2, 1) := by decide +kernel
theorem d_Mach_kindAt_44 : decode b_Mach_kindAt 44 = .ok (.ifCond .lt 19, 3) := by decide +kernel
theorem d_Mach_kindAt_47 : decode b_Mach_kindAt 47 = .ok (.iload_n 2, 1) := by decide +kernel
theorem d_Mach_kindAt_48 : decode b_Mach_kindAt 48 = .ok (.aload_n 0, 1) := by decide +kernel
theorem d_Mach_kindAt_49 : decode b_Mach_kindAt 49 = .ok (.getfield 37, 3) := by decide +kernel
theorem d_Mach_kindAt_52 : decode b_Mach_kindAt 52 = .ok (.iload_n 3, 1) := by decide +kernel
theorem d_Mach_kindAt_53 : decode b_Mach_kindAt 53 = .ok (.invokevirtual 149, 3) := by decide +kernel
theorem d_Mach_kindAt_56 : decode b_Mach_kindAt 56 = .ok (.if_icmp .ge 7, 3) := by decide +kernel
theorem d_Mach_kindAt_59 : decode b_Mach_kindAt 59 = .ok (.iconst 1, 1) := by decide +kernel
theorem d_Mach_kindAt_60 : decode b_Mach_kindAt 60 = .ok (.goto 4, 3) := by decide +kernel
theorem d_Mach_kindAt_63 : decode b_Mach_kindAt 63 = .ok (.iconst 0, 1) := by decide +kernel
theorem d_Mach_kindAt_64 : decode b_Mach_kindAt 64 = .ok (.istore 4, 2) := by decide +kernel
theorem d_Mach_kindAt_66 : decode b_Mach_kindAt 66 = .ok (.iload 4, 2) := by decide +kernel
theorem d_Mach_kindAt_68 : decode b_Mach_kindAt 68 = .ok (.ifCond .eq 15, 3) := by decide +kernel
theorem d_Mach_kindAt_71 : decode b_Mach_kindAt 71 = .ok (.aload_n 0, 1) := by decide +kernel
theorem d_Mach_kindAt_72 : decode b_Mach_kindAt 72 = .ok (.getfield 37, 3) := by decide +kernel
theorem d_Mach_kindAt_75 : decode b_Mach_kindAt 75 = .ok (.iload_n 3, 1) := by decide +kernel
theorem d_Mach_kindAt_76 : decode b_Mach_kindAt 76 = .ok (.iload_n 2, 1) := by decide +kernel
theorem d_Mach_kindAt_77 : decode b_Mach_kindAt 77 = .ok (.invokevirtual 146, 3) := by decide +kernel
theorem d_Mach_kindAt_80 : decode b_Mach_kindAt 80 = .ok (.goto 4, 3) := by decide +kernel
theorem d_Mach_kindAt_83 : decode b_Mach_kindAt 83 = .ok (.iconst (-1), 1) := by decide +kernel
theorem d_Mach_kindAt_84 : decode b_Mach_kindAt 84 = .ok (.istore_n 3, 1) := by decide +kernel
theorem d_Mach_kindAt_85 : decode b_Mach_kindAt 85 = .ok (.iload_n 3, 1) := by decide +kernel
theorem d_Mach_kindAt_86 : decode b_Mach_kindAt 86 = .ok (.iconst (-1), 1) := by decide +kernel
theorem d_Mach_kindAt_87 : decode b_Mach_kindAt 87 = .ok (.if_icmp .ne 7, 3) := by decide +kernel
theorem d_Mach_kindAt_90 : decode b_Mach_kindAt 90 = .ok (.iconst (-1), 1) := by decide +kernel
theorem d_Mach_kindAt_91 : decode b_Mach_kindAt 91 = .ok (.goto 11, 3) := by decide +kernel
theorem d_Mach_kindAt_94 : decode b_Mach_kindAt 94 = .ok (.aload_n 0, 1) := by decide +kernel
theorem d_Mach_kindAt_95 : decode b_Mach_kindAt 95 = .ok (.getfield 37, 3) := by decide +kernel
theorem d_Mach_kindAt_98 : decode b_Mach_kindAt 98 = .ok (.iload_n 3, 1) := by decide +kernel
theorem d_Mach_kindAt_99 : decode b_Mach_kindAt 99 = .ok (.invokevirtual 152, 3) := by decide +kernel
theorem d_Mach_kindAt_102 : decode b_Mach_kindAt 102 = .ok (.ireturn, 1) := by decide +kernel
abbrev rm_Mach_kindAt : Room := { frames := 2, cells := 0, slots := 0, locals := 44 }
set_option maxHeartbeats 4000000 in
set_option maxRecDepth 100000 in
theorem j_Mach_kindAt_J85 {l : Launch} {dC : Nat → ClassId} {dI : Nat → Nat → Nat} {a : Nat → Nat} {cI : ClassId} {L : Nat} {tt : Nat → Nat} {pr : Program} {e : Env} {s : State} {m : MethodId} {args : Array Value} {below : List Frame} {meth : Method} {c : Code} {A : Nat → Prop} {ls : Array Slot} {H : Heap} {locs : List Loc} {σ : St} {x3 : Int32} {q : Int32 × St} (C : Cx (dC, dI) clA (tyX cI) (SXx tt) pr s m args meth c b_Mach_kindAt 5 y_Mach_kindAt.cls A) (hr : meth.sig.returnType = (some .int)) (h : fMach_kindAt_J85 L σ x3 = some q) (hl : lv_has ls 5 [(0, .ref (a 0)), (3, .int x3)]) (hI : Wi (dC, dI) clA (wX a cI L σ) s A H locs)  : W pr l e rm_Mach_kindAt s m args below meth c H locs 0 0 (MQ below (rb_Qi (dC, dI) clA (tyX cI) (wX a cI L q.2) q.1 A) args s 0 0 A) (F0 m 85 ls []) := by
  have hx := C.1
  have hb := C.2.1
  unfold fMach_kindAt_J85 at h
  refine lv_iload_n hx hb d_Mach_kindAt_85 rfl (lv_at hl 1 rfl) ?_
  refine lv_iconst (v := (-1)) hx hb d_Mach_kindAt_86 (by decide) ?_
  refine lv_icmp_ne (tgt := 94) hx hb d_Mach_kindAt_87 (by decide) (fun hc => ?_) (fun hc => ?_)
  · replace h := of_neg hc h
    refine lv_aload_n hx hb d_Mach_kindAt_94 rfl (lv_at hl 0 rfl) ?_
    refine gf_Mach_37 C hI d_Mach_kindAt_95 ?_
    refine lv_iload_n hx hb d_Mach_kindAt_98 rfl (lv_at hl 1 rfl) ?_
    obtain ⟨p99, hp99, h⟩ := of_bind h
    refine rb_callI sxok C (c_Room_idOf hp99) cw_Mach_152 ⟨Nat.le_of_ble_eq_true rfl, Nat.le_of_ble_eq_true rfl⟩ ⟨rfl, rfl⟩ (q0 := 3) (ci := 3) rfl rfl hI ⟨Nat.zero_le _, Nat.zero_le _⟩ (As := [.int x3]) rfl hl.1 (rest := []) (Nat.le_of_ble_eq_true rfl) rfl d_Mach_kindAt_99 (fun H locs hI => ?_)
    replace h := Option.some.inj h
    subst h
    exact rb_retI C hr hI d_Mach_kindAt_102
  · replace h := of_pos hc h
    refine lv_iconst (v := (-1)) hx hb d_Mach_kindAt_90 (by decide) ?_
    refine lv_goto (tgt := 102) hx hb d_Mach_kindAt_91 (by decide) ?_
    replace h := Option.some.inj h
    subst h
    exact rb_retI C hr hI d_Mach_kindAt_102
set_option maxHeartbeats 4000000 in
set_option maxRecDepth 100000 in
theorem j_Mach_kindAt_J84 {l : Launch} {dC : Nat → ClassId} {dI : Nat → Nat → Nat} {a : Nat → Nat} {cI : ClassId} {L : Nat} {tt : Nat → Nat} {pr : Program} {e : Env} {s : State} {m : MethodId} {args : Array Value} {below : List Frame} {meth : Method} {c : Code} {A : Nat → Prop} {ls : Array Slot} {H : Heap} {locs : List Loc} {σ : St} {s0 : Int32} {q : Int32 × St} (C : Cx (dC, dI) clA (tyX cI) (SXx tt) pr s m args meth c b_Mach_kindAt 5 y_Mach_kindAt.cls A) (hr : meth.sig.returnType = (some .int)) (h : fMach_kindAt_J84 L σ s0 = some q) (hl : lv_has ls 5 [(0, .ref (a 0))]) (hI : Wi (dC, dI) clA (wX a cI L σ) s A H locs)  : W pr l e rm_Mach_kindAt s m args below meth c H locs 0 0 (MQ below (rb_Qi (dC, dI) clA (tyX cI) (wX a cI L q.2) q.1 A) args s 0 0 A) (F0 m 84 ls [.int s0]) := by
  have hx := C.1
  have hb := C.2.1
  unfold fMach_kindAt_J84 at h
  refine lv_istore_n (lv' := [(3, .int s0), (0, .ref (a 0))]) hx hb d_Mach_kindAt_84 rfl hl (by decide) rfl (fun ls hl => ?_)
  exact j_Mach_kindAt_J85 C hr h (lv_sub hl [1, 0] rfl) hI
set_option maxHeartbeats 4000000 in
set_option maxRecDepth 100000 in
theorem j_Mach_kindAt_J64 {l : Launch} {dC : Nat → ClassId} {dI : Nat → Nat → Nat} {a : Nat → Nat} {cI : ClassId} {L : Nat} {tt : Nat → Nat} {pr : Program} {e : Env} {s : State} {m : MethodId} {args : Array Value} {below : List Frame} {meth : Method} {c : Code} {A : Nat → Prop} {ls : Array Slot} {H : Heap} {locs : List Loc} {σ : St} {x2 x3 s0 : Int32} {q : Int32 × St} (C : Cx (dC, dI) clA (tyX cI) (SXx tt) pr s m args meth c b_Mach_kindAt 5 y_Mach_kindAt.cls A) (hr : meth.sig.returnType = (some .int)) (h : fMach_kindAt_J64 L σ x2 x3 s0 = some q) (hl : lv_has ls 5 [(0, .ref (a 0)), (2, .int x2), (3, .int x3)]) (hI : Wi (dC, dI) clA (wX a cI L σ) s A H locs)  : W pr l e rm_Mach_kindAt s m args below meth c H locs 0 0 (MQ below (rb_Qi (dC, dI) clA (tyX cI) (wX a cI L q.2) q.1 A) args s 0 0 A) (F0 m 64 ls [.int s0]) := by
  have hx := C.1
  have hb := C.2.1
  unfold fMach_kindAt_J64 at h
  refine lv_istore (lv' := [(4, .int s0), (0, .ref (a 0)), (2, .int x2), (3, .int x3)]) hx hb d_Mach_kindAt_64 hl (by decide) rfl (fun ls hl => ?_)
  refine lv_iload hx hb d_Mach_kindAt_66 (lv_at hl 0 rfl) ?_
  refine lv_if_eq (tgt := 83) hx hb d_Mach_kindAt_68 (by decide) (fun hc => ?_) (fun hc => ?_)
  · replace h := of_pos hc h
    refine lv_iconst (v := (-1)) hx hb d_Mach_kindAt_83 (by decide) ?_
    exact j_Mach_kindAt_J84 C hr h (lv_sub hl [1] rfl) hI
  · replace h := of_neg hc h
    refine lv_aload_n hx hb d_Mach_kindAt_71 rfl (lv_at hl 1 rfl) ?_
    refine gf_Mach_37 C hI d_Mach_kindAt_72 ?_
    refine lv_iload_n hx hb d_Mach_kindAt_75 rfl (lv_at hl 3 rfl) ?_
    refine lv_iload_n hx hb d_Mach_kindAt_76 rfl (lv_at hl 2 rfl) ?_
    obtain ⟨p77, hp77, h⟩ := of_bind h
    refine rb_callI sxok C (c_Room_peekRef hp77) cw_Mach_146 ⟨Nat.le_of_ble_eq_true rfl, Nat.le_of_ble_eq_true rfl⟩ ⟨rfl, rfl⟩ (q0 := 3) (ci := 3) rfl rfl hI ⟨Nat.zero_le _, Nat.zero_le _⟩ (As := [.int x3, .int x2]) rfl hl.1 (rest := []) (Nat.le_of_ble_eq_true rfl) rfl d_Mach_kindAt_77 (fun H locs hI => ?_)
    refine lv_goto (tgt := 84) hx hb d_Mach_kindAt_80 (by decide) ?_
    exact j_Mach_kindAt_J84 C hr h (lv_sub hl [1] rfl) hI
set_option maxHeartbeats 4000000 in
set_option maxRecDepth 100000 in
theorem j_Mach_kindAt_J63 {l : Launch} {dC : Nat → ClassId} {dI : Nat → Nat → Nat} {a : Nat → Nat} {cI : ClassId} {L : Nat} {tt : Nat → Nat} {pr : Program} {e : Env} {s : State} {m : MethodId} {args : Array Value} {below : List Frame} {meth : Method} {c : Code} {A : Nat → Prop} {ls : Array Slot} {H : Heap} {locs : List Loc} {σ : St} {x2 x3 : Int32} {q : Int32 × St} (C : Cx (dC, dI) clA (tyX cI) (SXx tt) pr s m args meth c b_Mach_kindAt 5 y_Mach_kindAt.cls A) (hr : meth.sig.returnType = (some .int)) (h : fMach_kindAt_J63 L σ x2 x3 = some q) (hl : lv_has ls 5 [(0, .ref (a 0)), (2, .int x2), (3, .int x3)]) (hI : Wi (dC, dI) clA (wX a cI L σ) s A H locs)  : W pr l e rm_Mach_kindAt s m args below meth c H locs 0 0 (MQ below (rb_Qi (dC, dI) clA (tyX cI) (wX a cI L q.2) q.1 A) args s 0 0 A) (F0 m 63 ls []) := by
  have hx := C.1
  have hb := C.2.1
  unfold fMach_kindAt_J63 at h
  refine lv_iconst (v := 0) hx hb d_Mach_kindAt_63 (by decide) ?_
  exact j_Mach_kindAt_J64 C hr h (lv_sub hl [0, 1, 2] rfl) hI
set_option maxHeartbeats 4000000 in
set_option maxRecDepth 100000 in
theorem c_Mach_kindAt {l : Launch} {dC : Nat → ClassId} {dI : Nat → Nat → Nat} {a : Nat → Nat} {cI : ClassId} {L : Nat} {tt : Nat → Nat} {σ : St} {x1 x2 : Int32} {q : Int32 × St} (h : fMach_kindAt L σ x1 x2 = some q) : CI l (dC, dI) clA (tyX cI) (SXx tt) (wX a cI L σ) (wX a cI L q.2) y_Mach_kindAt b_Mach_kindAt 5 (some .int) rm_Mach_kindAt [.ref (a 0), .int x1, .int x2] q.1 := by
  refine CI_of (by decide) (Nat.le_of_ble_eq_true rfl) ?_
  intro pr e s m below meth c A ls C hr hl hI
  have hx := C.1
  have hb := C.2.1
  have hl : lv_has ls 5 [(0, .ref (a 0)), (1, .int x1), (2, .int x2)] := hl
  unfold fMach_kindAt at h
  refine lv_aload_n hx hb d_Mach_kindAt_0 rfl (lv_at hl 0 rfl) ?_
  refine gf_Mach_45 C hI (v := σ.1 1) rfl d_Mach_kindAt_1 ?_
  refine lv_iconst (v := 4) hx hb d_Mach_kindAt_4 (by decide) ?_
  refine lv_icmp_eq (tgt := 15) hx hb d_Mach_kindAt_5 (by decide) (fun hc => ?_) (fun hc => ?_)
  · replace h := of_pos hc h
    refine lv_iconst (v := (-1)) hx hb d_Mach_kindAt_15 (by decide) ?_
    replace h := Option.some.inj h
    subst h
    exact rb_retI C hr hI d_Mach_kindAt_16
  · replace h := of_neg hc h
    refine lv_iload_n hx hb d_Mach_kindAt_8 rfl (lv_at hl 1 rfl) ?_
    obtain ⟨p9, hp9, h⟩ := of_bind h
    refine rb_callSI sxok C (c_Mach_isRegister hp9) cw_Mach_143 ⟨Nat.le_of_ble_eq_true rfl, Nat.le_of_ble_eq_true rfl⟩ ⟨rfl, rfl⟩ hI ⟨Nat.zero_le _, Nat.zero_le _⟩ (As := [.int x1]) rfl hl.1 (rest := []) (Nat.le_of_ble_eq_true rfl) rfl d_Mach_kindAt_9 (fun H locs hI => ?_)
    refine lv_if_ne (tgt := 17) hx hb d_Mach_kindAt_12 (by decide) (fun hc => ?_) (fun hc => ?_)
    · replace h := of_neg hc h
      refine lv_aload_n hx hb d_Mach_kindAt_17 rfl (lv_at hl 0 rfl) ?_
      refine gf_Mach_37 C hI d_Mach_kindAt_18 ?_
      refine lv_aload_n hx hb d_Mach_kindAt_21 rfl (lv_at hl 0 rfl) ?_
      refine gf_Mach_37 C hI d_Mach_kindAt_22 ?_
      refine gf_Mach_94 C hI (v := p9.2.1 11) rfl d_Mach_kindAt_25 ?_
      refine lv_iload_n hx hb d_Mach_kindAt_28 rfl (lv_at hl 1 rfl) ?_
      obtain ⟨p29, hp29, h⟩ := of_bind h
      refine rb_callI sxok C (c_Room_peekRef hp29) cw_Mach_146 ⟨Nat.le_of_ble_eq_true rfl, Nat.le_of_ble_eq_true rfl⟩ ⟨rfl, rfl⟩ (q0 := 3) (ci := 3) rfl rfl hI ⟨Nat.zero_le _, Nat.zero_le _⟩ (As := [.int (p9.2.1 11), .int x1]) rfl hl.1 (rest := []) (Nat.le_of_ble_eq_true rfl) rfl d_Mach_kindAt_29 (fun H locs hI => ?_)
      refine lv_istore_n (lv' := [(3, .int p29.1), (0, .ref (a 0)), (1, .int x1), (2, .int x2)]) hx hb d_Mach_kindAt_32 rfl hl (by decide) rfl (fun ls hl => ?_)
      refine lv_iload_n hx hb d_Mach_kindAt_33 rfl (lv_at hl 0 rfl) ?_
      refine lv_iconst (v := (-1)) hx hb d_Mach_kindAt_34 (by decide) ?_
      refine lv_icmp_eq (tgt := 85) hx hb d_Mach_kindAt_35 (by decide) (fun hc => ?_) (fun hc => ?_)
      · replace h := of_pos hc h
        exact j_Mach_kindAt_J85 C hr h (lv_sub hl [1, 0] rfl) hI
      · replace h := of_neg hc h
        refine lv_iload_n hx hb d_Mach_kindAt_38 rfl (lv_at hl 3 rfl) ?_
        refine lv_iconst (v := (-1)) hx hb d_Mach_kindAt_39 (by decide) ?_
        refine lv_icmp_eq (tgt := 85) hx hb d_Mach_kindAt_40 (by decide) (fun hc => ?_) (fun hc => ?_)
        · replace h := of_pos hc h
          exact j_Mach_kindAt_J85 C hr h (lv_sub hl [1, 0] rfl) hI
        · replace h := of_neg hc h
          refine lv_iload_n hx hb d_Mach_kindAt_43 rfl (lv_at hl 3 rfl) ?_
          refine lv_if_lt (tgt := 63) hx hb d_Mach_kindAt_44 (by decide) (fun hc => ?_) (fun hc => ?_)
          · replace h := of_pos hc h
            exact j_Mach_kindAt_J63 C hr h (lv_sub hl [1, 3, 0] rfl) hI
          · replace h := of_neg hc h
            refine lv_iload_n hx hb d_Mach_kindAt_47 rfl (lv_at hl 3 rfl) ?_
            refine lv_aload_n hx hb d_Mach_kindAt_48 rfl (lv_at hl 1 rfl) ?_
            refine gf_Mach_37 C hI d_Mach_kindAt_49 ?_
            refine lv_iload_n hx hb d_Mach_kindAt_52 rfl (lv_at hl 0 rfl) ?_
            obtain ⟨p53, hp53, h⟩ := of_bind h
            refine rb_callI sxok C (c_Room_refsOf hp53) cw_Mach_149 ⟨Nat.le_of_ble_eq_true rfl, Nat.le_of_ble_eq_true rfl⟩ ⟨rfl, rfl⟩ (q0 := 3) (ci := 3) rfl rfl hI ⟨Nat.zero_le _, Nat.zero_le _⟩ (As := [.int p29.1]) rfl hl.1 (rest := [.int x2]) (Nat.le_of_ble_eq_true rfl) rfl d_Mach_kindAt_53 (fun H locs hI => ?_)
            refine lv_icmp_ge (tgt := 63) hx hb d_Mach_kindAt_56 (by decide) (fun hc => ?_) (fun hc => ?_)
            · replace h := of_pos hc h
              exact j_Mach_kindAt_J63 C hr h (lv_sub hl [1, 3, 0] rfl) hI
            · replace h := of_neg hc h
              refine lv_iconst (v := 1) hx hb d_Mach_kindAt_59 (by decide) ?_
              refine lv_goto (tgt := 64) hx hb d_Mach_kindAt_60 (by decide) ?_
              exact j_Mach_kindAt_J64 C hr h (lv_sub hl [1, 3, 0] rfl) hI
    · replace h := of_pos hc h
      refine lv_iconst (v := (-1)) hx hb d_Mach_kindAt_15 (by decide) ?_
      replace h := Option.some.inj h
      subst h
      exact rb_retI C hr hI d_Mach_kindAt_16
theorem d_Mach_isAsSaid_0 : decode b_Mach_isAsSaid 0 = .ok (.getstatic 158, 3) := by decide +kernel
theorem d_Mach_isAsSaid_3 : decode b_Mach_isAsSaid 3 = .ok (.iload_n 1, 1) := by decide +kernel
theorem d_Mach_isAsSaid_4 : decode b_Mach_isAsSaid 4 = .ok (.iaload, 1) := by decide +kernel
theorem d_Mach_isAsSaid_5 : decode b_Mach_isAsSaid 5 = .ok (.iconst 1, 1) := by decide +kernel
theorem d_Mach_isAsSaid_6 : decode b_Mach_isAsSaid 6 = .ok (.if_icmp .ne 12, 3) := by decide +kernel
theorem d_Mach_isAsSaid_9 : decode b_Mach_isAsSaid 9 = .ok (.iload_n 2, 1) := by decide +kernel
theorem d_Mach_isAsSaid_10 : decode b_Mach_isAsSaid 10 = .ok (.invokestatic 143, 3) := by decide +kernel
theorem d_Mach_isAsSaid_13 : decode b_Mach_isAsSaid 13 = .ok (.ifCond .ne 5, 3) := by decide +kernel
theorem d_Mach_isAsSaid_16 : decode b_Mach_isAsSaid 16 = .ok (.iconst 0, 1) := by decide +kernel
theorem d_Mach_isAsSaid_17 : decode b_Mach_isAsSaid 17 = .ok (.ireturn, 1) := by decide +kernel
theorem d_Mach_isAsSaid_18 : decode b_Mach_isAsSaid 18 = .ok (.getstatic 161, 3) := by decide +kernel
theorem d_Mach_isAsSaid_21 : decode b_Mach_isAsSaid 21 = .ok (.iload_n 1, 1) := by decide +kernel
theorem d_Mach_isAsSaid_22 : decode b_Mach_isAsSaid 22 = .ok (.iaload, 1) := by decide +kernel
theorem d_Mach_isAsSaid_23 : decode b_Mach_isAsSaid 23 = .ok (.iconst 1, 1) := by decide +kernel
theorem d_Mach_isAsSaid_24 : decode b_Mach_isAsSaid 24 = .ok (.if_icmp .ne 12, 3) := by decide +kernel
theorem d_Mach_isAsSaid_27 : decode b_Mach_isAsSaid 27 = .ok (.iload_n 3, 1) := by decide +kernel
theorem d_Mach_isAsSaid_28 : decode b_Mach_isAsSaid 28 = .ok (.invokestatic 143, 3) := by decide +kernel
theorem d_Mach_isAsSaid_31 : decode b_Mach_isAsSaid 31 = .ok (.ifCond .ne 5, 3) := by decide +kernel
theorem d_Mach_isAsSaid_34 : decode b_Mach_isAsSaid 34 = .ok (.iconst 0, 1) := by decide +kernel
theorem d_Mach_isAsSaid_35 : decode b_Mach_isAsSaid 35 = .ok (.ireturn, 1) := by decide +kernel
theorem d_Mach_isAsSaid_36 : decode b_Mach_isAsSaid 36 = .ok (.iload_n 1, 1) := by decide +kernel
theorem d_Mach_isAsSaid_37 : decode b_Mach_isAsSaid 37 = .ok (.iconst 2, 1) := by decide +kernel
theorem d_Mach_isAsSaid_38 : decode b_Mach_isAsSaid 38 = .ok (.if_icmp .ne 13, 3) := by decide +kernel
theorem d_Mach_isAsSaid_41 : decode b_Mach_isAsSaid 41 = .ok (.aload_n 0, 1) := by decide +kernel
theorem d_Mach_isAsSaid_42 : decode b_Mach_isAsSaid 42 = .ok (.getfield 10, 3) := by decide +kernel
theorem d_Mach_isAsSaid_45 : decode b_Mach_isAsSaid 45 = .ok (.iload 4, 2) := by decide +kernel
theorem d_Mach_isAsSaid_47 : decode b_Mach_isAsSaid 47 = .ok (.invokevirtual 53, 3) := by decide +kernel
theorem d_Mach_isAsSaid_50 : decode b_Mach_isAsSaid 50 = .ok (.ireturn, 1) := by decide +kernel
theorem d_Mach_isAsSaid_51 : decode b_Mach_isAsSaid 51 = .ok (.getstatic 164, 3) := by decide +kernel
theorem d_Mach_isAsSaid_54 : decode b_Mach_isAsSaid 54 = .ok (.iload_n 1, 1) := by decide +kernel
theorem d_Mach_isAsSaid_55 : decode b_Mach_isAsSaid 55 = .ok (.iaload, 1) := by decide +kernel
theorem d_Mach_isAsSaid_56 : decode b_Mach_isAsSaid 56 = .ok (.iconst (-1), 1) := by decide +kernel
theorem d_Mach_isAsSaid_57 : decode b_Mach_isAsSaid 57 = .ok (.if_icmp .eq 18, 3) := by decide +kernel
theorem d_Mach_isAsSaid_60 : decode b_Mach_isAsSaid 60 = .ok (.iload 4, 2) := by decide +kernel
theorem d_Mach_isAsSaid_62 : decode b_Mach_isAsSaid 62 = .ok (.ifCond .lt 17, 3) := by decide +kernel
theorem d_Mach_isAsSaid_65 : decode b_Mach_isAsSaid 65 = .ok (.iload 4, 2) := by decide +kernel
theorem d_Mach_isAsSaid_67 : decode b_Mach_isAsSaid 67 = .ok (.getstatic 164, 3) := by decide +kernel
theorem d_Mach_isAsSaid_70 : decode b_Mach_isAsSaid 70 = .ok (.iload_n 1, 1) := by decide +kernel
theorem d_Mach_isAsSaid_71 : decode b_Mach_isAsSaid 71 = .ok (.iaload, 1) := by decide +kernel
theorem d_Mach_isAsSaid_72 : decode b_Mach_isAsSaid 72 = .ok (.if_icmp .ge 7, 3) := by decide +kernel
theorem d_Mach_isAsSaid_75 : decode b_Mach_isAsSaid 75 = .ok (.iconst 1, 1) := by decide +kernel
theorem d_Mach_isAsSaid_76 : decode b_Mach_isAsSaid 76 = .ok (.goto 4, 3) := by decide +kernel
theorem d_Mach_isAsSaid_79 : decode b_Mach_isAsSaid 79 = .ok (.iconst 0, 1) := by decide +kernel
theorem d_Mach_isAsSaid_80 : decode b_Mach_isAsSaid 80 = .ok (.ireturn, 1) := by decide +kernel
abbrev rm_Mach_isAsSaid : Room := { frames := 1, cells := 0, slots := 0, locals := 21 }
set_option maxHeartbeats 4000000 in
set_option maxRecDepth 100000 in
theorem j_Mach_isAsSaid_J36 {l : Launch} {dC : Nat → ClassId} {dI : Nat → Nat → Nat} {a : Nat → Nat} {cI : ClassId} {L : Nat} {tt : Nat → Nat} {pr : Program} {e : Env} {s : State} {m : MethodId} {args : Array Value} {below : List Frame} {meth : Method} {c : Code} {A : Nat → Prop} {ls : Array Slot} {H : Heap} {locs : List Loc} {σ : St} {x1 x4 : Int32} {q : Int32 × St} (C : Cx (dC, dI) clA (tyX cI) (SXx tt) pr s m args meth c b_Mach_isAsSaid 5 y_Mach_isAsSaid.cls A) (hr : meth.sig.returnType = (some .boolean)) (h : fMach_isAsSaid_J36 L σ x1 x4 = some q) (hl : lv_has ls 5 [(0, .ref (a 0)), (1, .int x1), (4, .int x4)]) (hI : Wi (dC, dI) clA (wX a cI L σ) s A H locs)  : W pr l e rm_Mach_isAsSaid s m args below meth c H locs 0 0 (MQ below (rb_Qi (dC, dI) clA (tyX cI) (wX a cI L q.2) q.1 A) args s 0 0 A) (F0 m 36 ls []) := by
  have hx := C.1
  have hb := C.2.1
  unfold fMach_isAsSaid_J36 at h
  refine lv_iload_n hx hb d_Mach_isAsSaid_36 rfl (lv_at hl 1 rfl) ?_
  refine lv_iconst (v := 2) hx hb d_Mach_isAsSaid_37 (by decide) ?_
  refine lv_icmp_ne (tgt := 51) hx hb d_Mach_isAsSaid_38 (by decide) (fun hc => ?_) (fun hc => ?_)
  · replace h := of_neg hc h
    refine gs_Mach_164 C hI d_Mach_isAsSaid_51 ?_
    refine lv_iload_n hx hb d_Mach_isAsSaid_54 rfl (lv_at hl 1 rfl) ?_
    obtain ⟨hg55, h⟩ := of_guard h
    refine at_2 C hI hg55 d_Mach_isAsSaid_55 ?_
    refine lv_iconst (v := (-1)) hx hb d_Mach_isAsSaid_56 (by decide) ?_
    refine lv_icmp_eq (tgt := 75) hx hb d_Mach_isAsSaid_57 (by decide) (fun hc => ?_) (fun hc => ?_)
    · replace h := of_pos hc h
      refine lv_iconst (v := 1) hx hb d_Mach_isAsSaid_75 (by decide) ?_
      refine lv_goto (tgt := 80) hx hb d_Mach_isAsSaid_76 (by decide) ?_
      replace h := Option.some.inj h
      subst h
      exact rb_retZ C hr (Or.inr rfl) hI d_Mach_isAsSaid_80
    · replace h := of_neg hc h
      refine lv_iload hx hb d_Mach_isAsSaid_60 (lv_at hl 2 rfl) ?_
      refine lv_if_lt (tgt := 79) hx hb d_Mach_isAsSaid_62 (by decide) (fun hc => ?_) (fun hc => ?_)
      · replace h := of_pos hc h
        refine lv_iconst (v := 0) hx hb d_Mach_isAsSaid_79 (by decide) ?_
        replace h := Option.some.inj h
        subst h
        exact rb_retZ C hr (Or.inl rfl) hI d_Mach_isAsSaid_80
      · replace h := of_neg hc h
        refine lv_iload hx hb d_Mach_isAsSaid_65 (lv_at hl 2 rfl) ?_
        refine gs_Mach_164 C hI d_Mach_isAsSaid_67 ?_
        refine lv_iload_n hx hb d_Mach_isAsSaid_70 rfl (lv_at hl 1 rfl) ?_
        obtain ⟨hg71, h⟩ := of_guard h
        refine at_2 C hI hg71 d_Mach_isAsSaid_71 ?_
        refine lv_icmp_ge (tgt := 79) hx hb d_Mach_isAsSaid_72 (by decide) (fun hc => ?_) (fun hc => ?_)
        · replace h := of_pos hc h
          refine lv_iconst (v := 0) hx hb d_Mach_isAsSaid_79 (by decide) ?_
          replace h := Option.some.inj h
          subst h
          exact rb_retZ C hr (Or.inl rfl) hI d_Mach_isAsSaid_80
        · replace h := of_neg hc h
          refine lv_iconst (v := 1) hx hb d_Mach_isAsSaid_75 (by decide) ?_
          refine lv_goto (tgt := 80) hx hb d_Mach_isAsSaid_76 (by decide) ?_
          replace h := Option.some.inj h
          subst h
          exact rb_retZ C hr (Or.inr rfl) hI d_Mach_isAsSaid_80
  · replace h := of_pos hc h
    refine lv_aload_n hx hb d_Mach_isAsSaid_41 rfl (lv_at hl 0 rfl) ?_
    refine gf_Mach_10 C hI d_Mach_isAsSaid_42 ?_
    refine lv_iload hx hb d_Mach_isAsSaid_45 (lv_at hl 2 rfl) ?_
    obtain ⟨p47, hp47, h⟩ := of_bind h
    refine rb_callI sxok C (c_Kinds_has hp47) cw_Mach_53 ⟨Nat.le_of_ble_eq_true rfl, Nat.le_of_ble_eq_true rfl⟩ ⟨rfl, rfl⟩ (q0 := 1) (ci := 1) rfl rfl hI ⟨Nat.zero_le _, Nat.zero_le _⟩ (As := [.int x4]) rfl hl.1 (rest := []) (Nat.le_of_ble_eq_true rfl) rfl d_Mach_isAsSaid_47 (fun H locs hI => ?_)
    obtain ⟨hg, h⟩ := of_guard h
    replace h := Option.some.inj h
    subst h
    exact rb_retZ C hr hg hI d_Mach_isAsSaid_50
set_option maxHeartbeats 4000000 in
set_option maxRecDepth 100000 in
theorem j_Mach_isAsSaid_J18 {l : Launch} {dC : Nat → ClassId} {dI : Nat → Nat → Nat} {a : Nat → Nat} {cI : ClassId} {L : Nat} {tt : Nat → Nat} {pr : Program} {e : Env} {s : State} {m : MethodId} {args : Array Value} {below : List Frame} {meth : Method} {c : Code} {A : Nat → Prop} {ls : Array Slot} {H : Heap} {locs : List Loc} {σ : St} {x1 x3 x4 : Int32} {q : Int32 × St} (C : Cx (dC, dI) clA (tyX cI) (SXx tt) pr s m args meth c b_Mach_isAsSaid 5 y_Mach_isAsSaid.cls A) (hr : meth.sig.returnType = (some .boolean)) (h : fMach_isAsSaid_J18 L σ x1 x3 x4 = some q) (hl : lv_has ls 5 [(0, .ref (a 0)), (1, .int x1), (3, .int x3), (4, .int x4)]) (hI : Wi (dC, dI) clA (wX a cI L σ) s A H locs)  : W pr l e rm_Mach_isAsSaid s m args below meth c H locs 0 0 (MQ below (rb_Qi (dC, dI) clA (tyX cI) (wX a cI L q.2) q.1 A) args s 0 0 A) (F0 m 18 ls []) := by
  have hx := C.1
  have hb := C.2.1
  unfold fMach_isAsSaid_J18 at h
  refine gs_Mach_161 C hI d_Mach_isAsSaid_18 ?_
  refine lv_iload_n hx hb d_Mach_isAsSaid_21 rfl (lv_at hl 1 rfl) ?_
  obtain ⟨hg22, h⟩ := of_guard h
  refine at_1 C hI hg22 d_Mach_isAsSaid_22 ?_
  refine lv_iconst (v := 1) hx hb d_Mach_isAsSaid_23 (by decide) ?_
  refine lv_icmp_ne (tgt := 36) hx hb d_Mach_isAsSaid_24 (by decide) (fun hc => ?_) (fun hc => ?_)
  · replace h := of_neg hc h
    exact j_Mach_isAsSaid_J36 C hr h (lv_sub hl [0, 1, 3] rfl) hI
  · replace h := of_pos hc h
    refine lv_iload_n hx hb d_Mach_isAsSaid_27 rfl (lv_at hl 2 rfl) ?_
    obtain ⟨p28, hp28, h⟩ := of_bind h
    refine rb_callSI sxok C (c_Mach_isRegister hp28) cw_Mach_143 ⟨Nat.le_of_ble_eq_true rfl, Nat.le_of_ble_eq_true rfl⟩ ⟨rfl, rfl⟩ hI ⟨Nat.zero_le _, Nat.zero_le _⟩ (As := [.int x3]) rfl hl.1 (rest := []) (Nat.le_of_ble_eq_true rfl) rfl d_Mach_isAsSaid_28 (fun H locs hI => ?_)
    refine lv_if_ne (tgt := 36) hx hb d_Mach_isAsSaid_31 (by decide) (fun hc => ?_) (fun hc => ?_)
    · replace h := of_neg hc h
      exact j_Mach_isAsSaid_J36 C hr h (lv_sub hl [0, 1, 3] rfl) hI
    · replace h := of_pos hc h
      refine lv_iconst (v := 0) hx hb d_Mach_isAsSaid_34 (by decide) ?_
      replace h := Option.some.inj h
      subst h
      exact rb_retZ C hr (Or.inl rfl) hI d_Mach_isAsSaid_35
set_option maxHeartbeats 4000000 in
set_option maxRecDepth 100000 in
theorem c_Mach_isAsSaid {l : Launch} {dC : Nat → ClassId} {dI : Nat → Nat → Nat} {a : Nat → Nat} {cI : ClassId} {L : Nat} {tt : Nat → Nat} {σ : St} {x1 x2 x3 x4 : Int32} {q : Int32 × St} (h : fMach_isAsSaid L σ x1 x2 x3 x4 = some q) : CI l (dC, dI) clA (tyX cI) (SXx tt) (wX a cI L σ) (wX a cI L q.2) y_Mach_isAsSaid b_Mach_isAsSaid 5 (some .boolean) rm_Mach_isAsSaid [.ref (a 0), .int x1, .int x2, .int x3, .int x4] q.1 := by
  refine CI_of (by decide) (Nat.le_of_ble_eq_true rfl) ?_
  intro pr e s m below meth c A ls C hr hl hI
  have hx := C.1
  have hb := C.2.1
  have hl : lv_has ls 5 [(0, .ref (a 0)), (1, .int x1), (2, .int x2), (3, .int x3), (4, .int x4)] := hl
  unfold fMach_isAsSaid at h
  refine gs_Mach_158 C hI d_Mach_isAsSaid_0 ?_
  refine lv_iload_n hx hb d_Mach_isAsSaid_3 rfl (lv_at hl 1 rfl) ?_
  obtain ⟨hg4, h⟩ := of_guard h
  refine at_0 C hI hg4 d_Mach_isAsSaid_4 ?_
  refine lv_iconst (v := 1) hx hb d_Mach_isAsSaid_5 (by decide) ?_
  refine lv_icmp_ne (tgt := 18) hx hb d_Mach_isAsSaid_6 (by decide) (fun hc => ?_) (fun hc => ?_)
  · replace h := of_neg hc h
    exact j_Mach_isAsSaid_J18 C hr h (lv_sub hl [0, 1, 3, 4] rfl) hI
  · replace h := of_pos hc h
    refine lv_iload_n hx hb d_Mach_isAsSaid_9 rfl (lv_at hl 2 rfl) ?_
    obtain ⟨p10, hp10, h⟩ := of_bind h
    refine rb_callSI sxok C (c_Mach_isRegister hp10) cw_Mach_143 ⟨Nat.le_of_ble_eq_true rfl, Nat.le_of_ble_eq_true rfl⟩ ⟨rfl, rfl⟩ hI ⟨Nat.zero_le _, Nat.zero_le _⟩ (As := [.int x2]) rfl hl.1 (rest := []) (Nat.le_of_ble_eq_true rfl) rfl d_Mach_isAsSaid_10 (fun H locs hI => ?_)
    refine lv_if_ne (tgt := 18) hx hb d_Mach_isAsSaid_13 (by decide) (fun hc => ?_) (fun hc => ?_)
    · replace h := of_neg hc h
      exact j_Mach_isAsSaid_J18 C hr h (lv_sub hl [0, 1, 3, 4] rfl) hI
    · replace h := of_pos hc h
      refine lv_iconst (v := 0) hx hb d_Mach_isAsSaid_16 (by decide) ?_
      replace h := Option.some.inj h
      subst h
      exact rb_retZ C hr (Or.inl rfl) hI d_Mach_isAsSaid_17
theorem d_Mach_code_0 : decode b_Mach_code 0 = .ok (.aload_n 0, 1) := by decide +kernel
theorem d_Mach_code_1 : decode b_Mach_code 1 = .ok (.getfield 19, 3) := by decide +kernel
theorem d_Mach_code_4 : decode b_Mach_code 4 = .ok (.getfield 68, 3) := by decide +kernel
theorem d_Mach_code_7 : decode b_Mach_code 7 = .ok (.ifCond .ne 5, 3) := by decide +kernel
theorem d_Mach_code_10 : decode b_Mach_code 10 = .ok (.iconst 1, 1) := by decide +kernel
theorem d_Mach_code_11 : decode b_Mach_code 11 = .ok (.ireturn, 1) := by decide +kernel
theorem d_Mach_code_12 : decode b_Mach_code 12 = .ok (.aload_n 0, 1) := by decide +kernel
theorem d_Mach_code_13 : decode b_Mach_code 13 = .ok (.getfield 19, 3) := by decide +kernel
theorem d_Mach_code_16 : decode b_Mach_code 16 = .ok (.invokevirtual 72, 3) := by decide +kernel
theorem d_Mach_code_19 : decode b_Mach_code 19 = .ok (.ifCond .eq 5, 3) := by decide +kernel
theorem d_Mach_code_22 : decode b_Mach_code 22 = .ok (.iconst 2, 1) := by decide +kernel
theorem d_Mach_code_23 : decode b_Mach_code 23 = .ok (.ireturn, 1) := by decide +kernel
theorem d_Mach_code_24 : decode b_Mach_code 24 = .ok (.iload_n 1, 1) := by decide +kernel
theorem d_Mach_code_25 : decode b_Mach_code 25 = .ok (.ifCond .lt 9, 3) := by decide +kernel
theorem d_Mach_code_28 : decode b_Mach_code 28 = .ok (.iload_n 1, 1) := by decide +kernel
theorem d_Mach_code_29 : decode b_Mach_code 29 = .ok (.bipush 16, 2) := by decide +kernel
theorem d_Mach_code_31 : decode b_Mach_code 31 = .ok (.if_icmp .lt 5, 3) := by decide +kernel
theorem d_Mach_code_34 : decode b_Mach_code 34 = .ok (.iconst 3, 1) := by decide +kernel
theorem d_Mach_code_35 : decode b_Mach_code 35 = .ok (.ireturn, 1) := by decide +kernel
theorem d_Mach_code_36 : decode b_Mach_code 36 = .ok (.aload_n 0, 1) := by decide +kernel
theorem d_Mach_code_37 : decode b_Mach_code 37 = .ok (.iload_n 1, 1) := by decide +kernel
theorem d_Mach_code_38 : decode b_Mach_code 38 = .ok (.iload_n 2, 1) := by decide +kernel
theorem d_Mach_code_39 : decode b_Mach_code 39 = .ok (.iload_n 3, 1) := by decide +kernel
theorem d_Mach_code_40 : decode b_Mach_code 40 = .ok (.iload 4, 2) := by decide +kernel
theorem d_Mach_code_42 : decode b_Mach_code 42 = .ok (.invokevirtual 76, 3) := by decide +kernel
theorem d_Mach_code_45 : decode b_Mach_code 45 = .ok (.ifCond .ne 5, 3) := by decide +kernel
theorem d_Mach_code_48 : decode b_Mach_code 48 = .ok (.iconst 4, 1) := by decide +kernel
theorem d_Mach_code_49 : decode b_Mach_code 49 = .ok (.ireturn, 1) := by decide +kernel
theorem d_Mach_code_50 : decode b_Mach_code 50 = .ok (.aload_n 0, 1) := by decide +kernel
theorem d_Mach_code_51 : decode b_Mach_code 51 = .ok (.getfield 19, 3) := by decide +kernel
theorem d_Mach_code_54 : decode b_Mach_code 54 = .ok (.iload_n 1, 1) := by decide +kernel
theorem d_Mach_code_55 : decode b_Mach_code 55 = .ok (.iload_n 2, 1) := by decide +kernel
theorem d_Mach_code_56 : decode b_Mach_code 56 = .ok (.iload_n 3, 1) := by decide +kernel
theorem d_Mach_code_57 : decode b_Mach_code 57 = .ok (.iload 4, 2) := by decide +kernel
theorem d_Mach_code_59 : decode b_Mach_code 59 = .ok (.invokevirtual 80, 3) := by decide +kernel
theorem d_Mach_code_62 : decode b_Mach_code 62 = .ok (.iconst 0, 1) := by decide +kernel
theorem d_Mach_code_63 : decode b_Mach_code 63 = .ok (.ireturn, 1) := by decide +kernel
abbrev rm_Mach_code : Room := { frames := 2, cells := 0, slots := 0, locals := 47 }
set_option maxHeartbeats 4000000 in
set_option maxRecDepth 100000 in
theorem c_Mach_code {l : Launch} {dC : Nat → ClassId} {dI : Nat → Nat → Nat} {a : Nat → Nat} {cI : ClassId} {L : Nat} {tt : Nat → Nat} {σ : St} {x1 x2 x3 x4 : Int32} {q : Int32 × St} (h : fMach_code L σ x1 x2 x3 x4 = some q) : CI l (dC, dI) clA (tyX cI) (SXx tt) (wX a cI L σ) (wX a cI L q.2) y_Mach_code b_Mach_code 5 (some .int) rm_Mach_code [.ref (a 0), .int x1, .int x2, .int x3, .int x4] q.1 := by
  refine CI_of (by decide) (Nat.le_of_ble_eq_true rfl) ?_
  intro pr e s m below meth c A ls C hr hl hI
  have hx := C.1
  have hb := C.2.1
  have hl : lv_has ls 5 [(0, .ref (a 0)), (1, .int x1), (2, .int x2), (3, .int x3), (4, .int x4)] := hl
  unfold fMach_code at h
  refine lv_aload_n hx hb d_Mach_code_0 rfl (lv_at hl 0 rfl) ?_
  refine gf_Mach_19 C hI d_Mach_code_1 ?_
  refine gf_Mach_68 C hI (v := σ.1 8) rfl d_Mach_code_4 ?_
  refine lv_if_ne (tgt := 12) hx hb d_Mach_code_7 (by decide) (fun hc => ?_) (fun hc => ?_)
  · replace h := of_neg hc h
    refine lv_aload_n hx hb d_Mach_code_12 rfl (lv_at hl 0 rfl) ?_
    refine gf_Mach_19 C hI d_Mach_code_13 ?_
    obtain ⟨p16, hp16, h⟩ := of_bind h
    refine rb_callI sxok C (c_Meths_isOpenOneFull hp16) cw_Mach_72 ⟨Nat.le_of_ble_eq_true rfl, Nat.le_of_ble_eq_true rfl⟩ ⟨rfl, rfl⟩ (q0 := 2) (ci := 2) rfl rfl hI ⟨Nat.zero_le _, Nat.zero_le _⟩ (As := []) rfl hl.1 (rest := []) (Nat.le_of_ble_eq_true rfl) rfl d_Mach_code_16 (fun H locs hI => ?_)
    refine lv_if_eq (tgt := 24) hx hb d_Mach_code_19 (by decide) (fun hc => ?_) (fun hc => ?_)
    · replace h := of_pos hc h
      refine lv_iload_n hx hb d_Mach_code_24 rfl (lv_at hl 1 rfl) ?_
      refine lv_if_lt (tgt := 34) hx hb d_Mach_code_25 (by decide) (fun hc => ?_) (fun hc => ?_)
      · replace h := of_pos hc h
        refine lv_iconst (v := 3) hx hb d_Mach_code_34 (by decide) ?_
        replace h := Option.some.inj h
        subst h
        exact rb_retI C hr hI d_Mach_code_35
      · replace h := of_neg hc h
        refine lv_iload_n hx hb d_Mach_code_28 rfl (lv_at hl 1 rfl) ?_
        refine lv_bipush (v := 16) hx hb d_Mach_code_29 (by decide) ?_
        refine lv_icmp_lt (tgt := 36) hx hb d_Mach_code_31 (by decide) (fun hc => ?_) (fun hc => ?_)
        · replace h := of_pos hc h
          refine lv_aload_n hx hb d_Mach_code_36 rfl (lv_at hl 0 rfl) ?_
          refine lv_iload_n hx hb d_Mach_code_37 rfl (lv_at hl 1 rfl) ?_
          refine lv_iload_n hx hb d_Mach_code_38 rfl (lv_at hl 2 rfl) ?_
          refine lv_iload_n hx hb d_Mach_code_39 rfl (lv_at hl 3 rfl) ?_
          refine lv_iload hx hb d_Mach_code_40 (lv_at hl 4 rfl) ?_
          obtain ⟨p42, hp42, h⟩ := of_bind h
          refine rb_callI sxok C (c_Mach_isAsSaid hp42) cw_Mach_76 ⟨Nat.le_of_ble_eq_true rfl, Nat.le_of_ble_eq_true rfl⟩ ⟨rfl, rfl⟩ (q0 := 0) (ci := 0) rfl rfl hI ⟨Nat.zero_le _, Nat.zero_le _⟩ (As := [.int x1, .int x2, .int x3, .int x4]) rfl hl.1 (rest := []) (Nat.le_of_ble_eq_true rfl) rfl d_Mach_code_42 (fun H locs hI => ?_)
          refine lv_if_ne (tgt := 50) hx hb d_Mach_code_45 (by decide) (fun hc => ?_) (fun hc => ?_)
          · replace h := of_neg hc h
            refine lv_aload_n hx hb d_Mach_code_50 rfl (lv_at hl 0 rfl) ?_
            refine gf_Mach_19 C hI d_Mach_code_51 ?_
            refine lv_iload_n hx hb d_Mach_code_54 rfl (lv_at hl 1 rfl) ?_
            refine lv_iload_n hx hb d_Mach_code_55 rfl (lv_at hl 2 rfl) ?_
            refine lv_iload_n hx hb d_Mach_code_56 rfl (lv_at hl 3 rfl) ?_
            refine lv_iload hx hb d_Mach_code_57 (lv_at hl 4 rfl) ?_
            obtain ⟨p59, hp59, h⟩ := of_bind h
            refine rb_callV sxok C (c_Meths_add hp59) cw_Mach_80 ⟨Nat.le_of_ble_eq_true rfl, Nat.le_of_ble_eq_true rfl⟩ ⟨rfl, rfl⟩ (q0 := 2) (ci := 2) rfl rfl hI ⟨Nat.zero_le _, Nat.zero_le _⟩ (As := [.int x1, .int x2, .int x3, .int x4]) rfl hl.1 (rest := []) (Nat.le_of_ble_eq_true rfl) rfl d_Mach_code_59 (fun H locs hI => ?_)
            refine lv_iconst (v := 0) hx hb d_Mach_code_62 (by decide) ?_
            replace h := Option.some.inj h
            subst h
            exact rb_retI C hr hI d_Mach_code_63
          · replace h := of_pos hc h
            refine lv_iconst (v := 4) hx hb d_Mach_code_48 (by decide) ?_
            replace h := Option.some.inj h
            subst h
            exact rb_retI C hr hI d_Mach_code_49
        · replace h := of_neg hc h
          refine lv_iconst (v := 3) hx hb d_Mach_code_34 (by decide) ?_
          replace h := Option.some.inj h
          subst h
          exact rb_retI C hr hI d_Mach_code_35
    · replace h := of_neg hc h
      refine lv_iconst (v := 2) hx hb d_Mach_code_22 (by decide) ?_
      replace h := Option.some.inj h
      subst h
      exact rb_retI C hr hI d_Mach_code_23
  · replace h := of_pos hc h
    refine lv_iconst (v := 1) hx hb d_Mach_code_10 (by decide) ?_
    replace h := Option.some.inj h
    subst h
    exact rb_retI C hr hI d_Mach_code_11
theorem d_Mach_doCall_0 : decode b_Mach_doCall 0 = .ok (.aload_n 0, 1) := by decide +kernel
theorem d_Mach_doCall_1 : decode b_Mach_doCall 1 = .ok (.getfield 37, 3) := by decide +kernel
theorem d_Mach_doCall_4 : decode b_Mach_doCall 4 = .ok (.aload_n 0, 1) := by decide +kernel
theorem d_Mach_doCall_5 : decode b_Mach_doCall 5 = .ok (.getfield 37, 3) := by decide +kernel
theorem d_Mach_doCall_8 : decode b_Mach_doCall 8 = .ok (.getfield 94, 3) := by decide +kernel
theorem d_Mach_doCall_11 : decode b_Mach_doCall 11 = .ok (.iload_n 1, 1) := by decide +kernel
theorem d_Mach_doCall_12 : decode b_Mach_doCall 12 = .ok (.invokevirtual 182, 3) := by decide +kernel
theorem d_Mach_doCall_15 : decode b_Mach_doCall 15 = .ok (.istore 4, 2) := by decide +kernel
theorem d_Mach_doCall_17 : decode b_Mach_doCall 17 = .ok (.aload_n 0, 1) := by decide +kernel
theorem d_Mach_doCall_18 : decode b_Mach_doCall 18 = .ok (.iload 4, 2) := by decide +kernel
theorem d_Mach_doCall_20 : decode b_Mach_doCall 20 = .ok (.invokevirtual 255, 3) := by decide +kernel
theorem d_Mach_doCall_23 : decode b_Mach_doCall 23 = .ok (.ifCond .ne 4, 3) := by decide +kernel
theorem d_Mach_doCall_26 : decode b_Mach_doCall 26 = .ok (.return_, 1) := by decide +kernel
theorem d_Mach_doCall_27 : decode b_Mach_doCall 27 = .ok (.aload_n 0, 1) := by decide +kernel
theorem d_Mach_doCall_28 : decode b_Mach_doCall 28 = .ok (.getfield 10, 3) := by decide +kernel
theorem d_Mach_doCall_31 : decode b_Mach_doCall 31 = .ok (.aload_n 0, 1) := by decide +kernel
theorem d_Mach_doCall_32 : decode b_Mach_doCall 32 = .ok (.getfield 37, 3) := by decide +kernel
theorem d_Mach_doCall_35 : decode b_Mach_doCall 35 = .ok (.iload 4, 2) := by decide +kernel
theorem d_Mach_doCall_37 : decode b_Mach_doCall 37 = .ok (.invokevirtual 152, 3) := by decide +kernel
theorem d_Mach_doCall_40 : decode b_Mach_doCall 40 = .ok (.iload_n 3, 1) := by decide +kernel
theorem d_Mach_doCall_41 : decode b_Mach_doCall 41 = .ok (.invokevirtual 258, 3) := by decide +kernel
theorem d_Mach_doCall_44 : decode b_Mach_doCall 44 = .ok (.istore 5, 2) := by decide +kernel
theorem d_Mach_doCall_46 : decode b_Mach_doCall 46 = .ok (.iload 5, 2) := by decide +kernel
theorem d_Mach_doCall_48 : decode b_Mach_doCall 48 = .ok (.iconst (-1), 1) := by decide +kernel
theorem d_Mach_doCall_49 : decode b_Mach_doCall 49 = .ok (.if_icmp .ne 9, 3) := by decide +kernel
theorem d_Mach_doCall_52 : decode b_Mach_doCall 52 = .ok (.aload_n 0, 1) := by decide +kernel
theorem d_Mach_doCall_53 : decode b_Mach_doCall 53 = .ok (.iconst 3, 1) := by decide +kernel
theorem d_Mach_doCall_54 : decode b_Mach_doCall 54 = .ok (.invokevirtual 236, 3) := by decide +kernel
theorem d_Mach_doCall_57 : decode b_Mach_doCall 57 = .ok (.return_, 1) := by decide +kernel
theorem d_Mach_doCall_58 : decode b_Mach_doCall 58 = .ok (.aload_n 0, 1) := by decide +kernel
theorem d_Mach_doCall_59 : decode b_Mach_doCall 59 = .ok (.getfield 37, 3) := by decide +kernel
theorem d_Mach_doCall_62 : decode b_Mach_doCall 62 = .ok (.iload 5, 2) := by decide +kernel
theorem d_Mach_doCall_64 : decode b_Mach_doCall 64 = .ok (.invokestatic 261, 3) := by decide +kernel
theorem d_Mach_doCall_67 : decode b_Mach_doCall 67 = .ok (.invokevirtual 245, 3) := by decide +kernel
theorem d_Mach_doCall_70 : decode b_Mach_doCall 70 = .ok (.istore 6, 2) := by decide +kernel
theorem d_Mach_doCall_72 : decode b_Mach_doCall 72 = .ok (.aload_n 0, 1) := by decide +kernel
theorem d_Mach_doCall_73 : decode b_Mach_doCall 73 = .ok (.getfield 37, 3) := by decide +kernel
theorem d_Mach_doCall_76 : decode b_Mach_doCall 76 = .ok (.getfield 121, 3) := by decide +kernel
theorem d_Mach_doCall_79 : decode b_Mach_doCall 79 = .ok (.ifCond .eq 4, 3) := by decide +kernel
theorem d_Mach_doCall_82 : decode b_Mach_doCall 82 = .ok (.return_, 1) := by decide +kernel
theorem d_Mach_doCall_83 : decode b_Mach_doCall 83 = .ok (.aload_n 0, 1) := by decide +kernel
theorem d_Mach_doCall_84 : decode b_Mach_doCall 84 = .ok (.getfield 37, 3) := by decide +kernel
theorem d_Mach_doCall_87 : decode b_Mach_doCall 87 = .ok (.aload_n 0, 1) := by decide +kernel
theorem d_Mach_doCall_88 : decode b_Mach_doCall 88 = .ok (.getfield 37, 3) := by decide +kernel
theorem d_Mach_doCall_91 : decode b_Mach_doCall 91 = .ok (.getfield 94, 3) := by decide +kernel
theorem d_Mach_doCall_94 : decode b_Mach_doCall 94 = .ok (.iload_n 1, 1) := by decide +kernel
theorem d_Mach_doCall_95 : decode b_Mach_doCall 95 = .ok (.invokevirtual 182, 3) := by decide +kernel
theorem d_Mach_doCall_98 : decode b_Mach_doCall 98 = .ok (.istore 7, 2) := by decide +kernel
theorem d_Mach_doCall_100 : decode b_Mach_doCall 100 = .ok (.aload_n 0, 1) := by decide +kernel
theorem d_Mach_doCall_101 : decode b_Mach_doCall 101 = .ok (.getfield 37, 3) := by decide +kernel
theorem d_Mach_doCall_104 : decode b_Mach_doCall 104 = .ok (.getfield 121, 3) := by decide +kernel
theorem d_Mach_doCall_107 : decode b_Mach_doCall 107 = .ok (.ifCond .eq 4, 3) := by decide +kernel
theorem d_Mach_doCall_110 : decode b_Mach_doCall 110 = .ok (.return_, 1) := by decide +kernel
theorem d_Mach_doCall_111 : decode b_Mach_doCall 111 = .ok (.aload_n 0, 1) := by decide +kernel
theorem d_Mach_doCall_112 : decode b_Mach_doCall 112 = .ok (.getfield 37, 3) := by decide +kernel
theorem d_Mach_doCall_115 : decode b_Mach_doCall 115 = .ok (.aload_n 0, 1) := by decide +kernel
theorem d_Mach_doCall_116 : decode b_Mach_doCall 116 = .ok (.getfield 37, 3) := by decide +kernel
theorem d_Mach_doCall_119 : decode b_Mach_doCall 119 = .ok (.getfield 94, 3) := by decide +kernel
theorem d_Mach_doCall_122 : decode b_Mach_doCall 122 = .ok (.iload_n 2, 1) := by decide +kernel
theorem d_Mach_doCall_123 : decode b_Mach_doCall 123 = .ok (.invokevirtual 182, 3) := by decide +kernel
theorem d_Mach_doCall_126 : decode b_Mach_doCall 126 = .ok (.istore 8, 2) := by decide +kernel
theorem d_Mach_doCall_128 : decode b_Mach_doCall 128 = .ok (.aload_n 0, 1) := by decide +kernel
theorem d_Mach_doCall_129 : decode b_Mach_doCall 129 = .ok (.getfield 37, 3) := by decide +kernel
theorem d_Mach_doCall_132 : decode b_Mach_doCall 132 = .ok (.getfield 121, 3) := by decide +kernel
theorem d_Mach_doCall_135 : decode b_Mach_doCall 135 = .ok (.ifCond .eq 4, 3) := by decide +kernel
theorem d_Mach_doCall_138 : decode b_Mach_doCall 138 = .ok (.return_, 1) := by decide +kernel
theorem d_Mach_doCall_139 : decode b_Mach_doCall 139 = .ok (.aload_n 0, 1) := by decide +kernel
theorem d_Mach_doCall_140 : decode b_Mach_doCall 140 = .ok (.iload 6, 2) := by decide +kernel
theorem d_Mach_doCall_142 : decode b_Mach_doCall 142 = .ok (.iload 7, 2) := by decide +kernel
theorem d_Mach_doCall_144 : decode b_Mach_doCall 144 = .ok (.iload 8, 2) := by decide +kernel
theorem d_Mach_doCall_146 : decode b_Mach_doCall 146 = .ok (.invokevirtual 264, 3) := by decide +kernel
theorem d_Mach_doCall_149 : decode b_Mach_doCall 149 = .ok (.return_, 1) := by decide +kernel
abbrev rm_Mach_doCall : Room := { frames := 5, cells := 0, slots := 0, locals := 156 }
set_option maxHeartbeats 4000000 in
set_option maxRecDepth 100000 in
theorem c_Mach_doCall {l : Launch} {dC : Nat → ClassId} {dI : Nat → Nat → Nat} {a : Nat → Nat} {cI : ClassId} {L : Nat} {tt : Nat → Nat} {σ : St} {x1 x2 x3 : Int32} {q : St} (h : fMach_doCall L σ x1 x2 x3 = some q) : CV l (dC, dI) clA (tyX cI) (SXx tt) (wX a cI L σ) (wX a cI L q) y_Mach_doCall b_Mach_doCall 9 none rm_Mach_doCall [.ref (a 0), .int x1, .int x2, .int x3] := by
  refine CV_of (by decide) (Nat.le_of_ble_eq_true rfl) ?_
  intro pr e s m below meth c A ls C hr hl hI
  have hx := C.1
  have hb := C.2.1
  have hl : lv_has ls 9 [(0, .ref (a 0)), (1, .int x1), (2, .int x2), (3, .int x3)] := hl
  unfold fMach_doCall at h
  refine lv_aload_n hx hb d_Mach_doCall_0 rfl (lv_at hl 0 rfl) ?_
  refine gf_Mach_37 C hI d_Mach_doCall_1 ?_
  refine lv_aload_n hx hb d_Mach_doCall_4 rfl (lv_at hl 0 rfl) ?_
  refine gf_Mach_37 C hI d_Mach_doCall_5 ?_
  refine gf_Mach_94 C hI (v := σ.1 11) rfl d_Mach_doCall_8 ?_
  refine lv_iload_n hx hb d_Mach_doCall_11 rfl (lv_at hl 1 rfl) ?_
  obtain ⟨p12, hp12, h⟩ := of_bind h
  refine rb_callI sxok C (c_Room_readRef hp12) cw_Mach_182 ⟨Nat.le_of_ble_eq_true rfl, Nat.le_of_ble_eq_true rfl⟩ ⟨rfl, rfl⟩ (q0 := 3) (ci := 3) rfl rfl hI ⟨Nat.zero_le _, Nat.zero_le _⟩ (As := [.int (σ.1 11), .int x1]) rfl hl.1 (rest := []) (Nat.le_of_ble_eq_true rfl) rfl d_Mach_doCall_12 (fun H locs hI => ?_)
  refine lv_istore (lv' := [(4, .int p12.1), (0, .ref (a 0)), (1, .int x1), (2, .int x2), (3, .int x3)]) hx hb d_Mach_doCall_15 hl (by decide) rfl (fun ls hl => ?_)
  refine lv_aload_n hx hb d_Mach_doCall_17 rfl (lv_at hl 1 rfl) ?_
  refine lv_iload hx hb d_Mach_doCall_18 (lv_at hl 0 rfl) ?_
  obtain ⟨p20, hp20, h⟩ := of_bind h
  refine rb_callI sxok C (c_Mach_isThere hp20) cw_Mach_255 ⟨Nat.le_of_ble_eq_true rfl, Nat.le_of_ble_eq_true rfl⟩ ⟨rfl, rfl⟩ (q0 := 0) (ci := 0) rfl rfl hI ⟨Nat.zero_le _, Nat.zero_le _⟩ (As := [.int p12.1]) rfl hl.1 (rest := []) (Nat.le_of_ble_eq_true rfl) rfl d_Mach_doCall_20 (fun H locs hI => ?_)
  refine lv_if_ne (tgt := 27) hx hb d_Mach_doCall_23 (by decide) (fun hc => ?_) (fun hc => ?_)
  · replace h := of_neg hc h
    refine lv_aload_n hx hb d_Mach_doCall_27 rfl (lv_at hl 1 rfl) ?_
    refine gf_Mach_10 C hI d_Mach_doCall_28 ?_
    refine lv_aload_n hx hb d_Mach_doCall_31 rfl (lv_at hl 1 rfl) ?_
    refine gf_Mach_37 C hI d_Mach_doCall_32 ?_
    refine lv_iload hx hb d_Mach_doCall_35 (lv_at hl 0 rfl) ?_
    obtain ⟨p37, hp37, h⟩ := of_bind h
    refine rb_callI sxok C (c_Room_idOf hp37) cw_Mach_152 ⟨Nat.le_of_ble_eq_true rfl, Nat.le_of_ble_eq_true rfl⟩ ⟨rfl, rfl⟩ (q0 := 3) (ci := 3) rfl rfl hI ⟨Nat.zero_le _, Nat.zero_le _⟩ (As := [.int p12.1]) rfl hl.1 (rest := [.ref (a 1)]) (Nat.le_of_ble_eq_true rfl) rfl d_Mach_doCall_37 (fun H locs hI => ?_)
    refine lv_iload_n hx hb d_Mach_doCall_40 rfl (lv_at hl 4 rfl) ?_
    obtain ⟨p41, hp41, h⟩ := of_bind h
    refine rb_callI sxok C (c_Kinds_entry hp41) cw_Mach_258 ⟨Nat.le_of_ble_eq_true rfl, Nat.le_of_ble_eq_true rfl⟩ ⟨rfl, rfl⟩ (q0 := 1) (ci := 1) rfl rfl hI ⟨Nat.zero_le _, Nat.zero_le _⟩ (As := [.int p37.1, .int x3]) rfl hl.1 (rest := []) (Nat.le_of_ble_eq_true rfl) rfl d_Mach_doCall_41 (fun H locs hI => ?_)
    refine lv_istore (lv' := [(5, .int p41.1), (4, .int p12.1), (0, .ref (a 0)), (1, .int x1), (2, .int x2), (3, .int x3)]) hx hb d_Mach_doCall_44 hl (by decide) rfl (fun ls hl => ?_)
    refine lv_iload hx hb d_Mach_doCall_46 (lv_at hl 0 rfl) ?_
    refine lv_iconst (v := (-1)) hx hb d_Mach_doCall_48 (by decide) ?_
    refine lv_icmp_ne (tgt := 58) hx hb d_Mach_doCall_49 (by decide) (fun hc => ?_) (fun hc => ?_)
    · replace h := of_neg hc h
      refine lv_aload_n hx hb d_Mach_doCall_58 rfl (lv_at hl 2 rfl) ?_
      refine gf_Mach_37 C hI d_Mach_doCall_59 ?_
      refine lv_iload hx hb d_Mach_doCall_62 (lv_at hl 0 rfl) ?_
      obtain ⟨p64, hp64, h⟩ := of_bind h
      refine rb_callSI sxok C (c_Room_headOfFrame hp64) cw_Mach_261 ⟨Nat.le_of_ble_eq_true rfl, Nat.le_of_ble_eq_true rfl⟩ ⟨rfl, rfl⟩ hI ⟨Nat.zero_le _, Nat.zero_le _⟩ (As := [.int p41.1]) rfl hl.1 (rest := [.ref (a 3)]) (Nat.le_of_ble_eq_true rfl) rfl d_Mach_doCall_64 (fun H locs hI => ?_)
      obtain ⟨p67, hp67, h⟩ := of_bind h
      refine rb_callI sxok C (c_Room_make hp67) cw_Mach_245 ⟨Nat.le_of_ble_eq_true rfl, Nat.le_of_ble_eq_true rfl⟩ ⟨rfl, rfl⟩ (q0 := 3) (ci := 3) rfl rfl hI ⟨Nat.zero_le _, Nat.zero_le _⟩ (As := [.int p64.1]) rfl hl.1 (rest := []) (Nat.le_of_ble_eq_true rfl) rfl d_Mach_doCall_67 (fun H locs hI => ?_)
      refine lv_istore (lv' := [(6, .int p67.1), (5, .int p41.1), (4, .int p12.1), (0, .ref (a 0)), (1, .int x1), (2, .int x2), (3, .int x3)]) hx hb d_Mach_doCall_70 hl (by decide) rfl (fun ls hl => ?_)
      refine lv_aload_n hx hb d_Mach_doCall_72 rfl (lv_at hl 3 rfl) ?_
      refine gf_Mach_37 C hI d_Mach_doCall_73 ?_
      refine gf_Mach_121 C hI (v := p67.2.1 20) rfl d_Mach_doCall_76 ?_
      refine lv_if_eq (tgt := 83) hx hb d_Mach_doCall_79 (by decide) (fun hc => ?_) (fun hc => ?_)
      · replace h := of_pos hc h
        refine lv_aload_n hx hb d_Mach_doCall_83 rfl (lv_at hl 3 rfl) ?_
        refine gf_Mach_37 C hI d_Mach_doCall_84 ?_
        refine lv_aload_n hx hb d_Mach_doCall_87 rfl (lv_at hl 3 rfl) ?_
        refine gf_Mach_37 C hI d_Mach_doCall_88 ?_
        refine gf_Mach_94 C hI (v := p67.2.1 11) rfl d_Mach_doCall_91 ?_
        refine lv_iload_n hx hb d_Mach_doCall_94 rfl (lv_at hl 4 rfl) ?_
        obtain ⟨p95, hp95, h⟩ := of_bind h
        refine rb_callI sxok C (c_Room_readRef hp95) cw_Mach_182 ⟨Nat.le_of_ble_eq_true rfl, Nat.le_of_ble_eq_true rfl⟩ ⟨rfl, rfl⟩ (q0 := 3) (ci := 3) rfl rfl hI ⟨Nat.zero_le _, Nat.zero_le _⟩ (As := [.int (p67.2.1 11), .int x1]) rfl hl.1 (rest := []) (Nat.le_of_ble_eq_true rfl) rfl d_Mach_doCall_95 (fun H locs hI => ?_)
        refine lv_istore (lv' := [(7, .int p95.1), (6, .int p67.1), (5, .int p41.1), (4, .int p12.1), (0, .ref (a 0)), (1, .int x1), (2, .int x2), (3, .int x3)]) hx hb d_Mach_doCall_98 hl (by decide) rfl (fun ls hl => ?_)
        refine lv_aload_n hx hb d_Mach_doCall_100 rfl (lv_at hl 4 rfl) ?_
        refine gf_Mach_37 C hI d_Mach_doCall_101 ?_
        refine gf_Mach_121 C hI (v := p95.2.1 20) rfl d_Mach_doCall_104 ?_
        refine lv_if_eq (tgt := 111) hx hb d_Mach_doCall_107 (by decide) (fun hc => ?_) (fun hc => ?_)
        · replace h := of_pos hc h
          refine lv_aload_n hx hb d_Mach_doCall_111 rfl (lv_at hl 4 rfl) ?_
          refine gf_Mach_37 C hI d_Mach_doCall_112 ?_
          refine lv_aload_n hx hb d_Mach_doCall_115 rfl (lv_at hl 4 rfl) ?_
          refine gf_Mach_37 C hI d_Mach_doCall_116 ?_
          refine gf_Mach_94 C hI (v := p95.2.1 11) rfl d_Mach_doCall_119 ?_
          refine lv_iload_n hx hb d_Mach_doCall_122 rfl (lv_at hl 6 rfl) ?_
          obtain ⟨p123, hp123, h⟩ := of_bind h
          refine rb_callI sxok C (c_Room_readRef hp123) cw_Mach_182 ⟨Nat.le_of_ble_eq_true rfl, Nat.le_of_ble_eq_true rfl⟩ ⟨rfl, rfl⟩ (q0 := 3) (ci := 3) rfl rfl hI ⟨Nat.zero_le _, Nat.zero_le _⟩ (As := [.int (p95.2.1 11), .int x2]) rfl hl.1 (rest := []) (Nat.le_of_ble_eq_true rfl) rfl d_Mach_doCall_123 (fun H locs hI => ?_)
          refine lv_istore (lv' := [(8, .int p123.1), (7, .int p95.1), (6, .int p67.1), (5, .int p41.1), (4, .int p12.1), (0, .ref (a 0)), (1, .int x1), (2, .int x2), (3, .int x3)]) hx hb d_Mach_doCall_126 hl (by decide) rfl (fun ls hl => ?_)
          refine lv_aload_n hx hb d_Mach_doCall_128 rfl (lv_at hl 5 rfl) ?_
          refine gf_Mach_37 C hI d_Mach_doCall_129 ?_
          refine gf_Mach_121 C hI (v := p123.2.1 20) rfl d_Mach_doCall_132 ?_
          refine lv_if_eq (tgt := 139) hx hb d_Mach_doCall_135 (by decide) (fun hc => ?_) (fun hc => ?_)
          · replace h := of_pos hc h
            refine lv_aload_n hx hb d_Mach_doCall_139 rfl (lv_at hl 5 rfl) ?_
            refine lv_iload hx hb d_Mach_doCall_140 (lv_at hl 2 rfl) ?_
            refine lv_iload hx hb d_Mach_doCall_142 (lv_at hl 1 rfl) ?_
            refine lv_iload hx hb d_Mach_doCall_144 (lv_at hl 0 rfl) ?_
            obtain ⟨p146, hp146, h⟩ := of_bind h
            refine rb_callV sxok C (c_Mach_enterFrame hp146) cw_Mach_264 ⟨Nat.le_of_ble_eq_true rfl, Nat.le_of_ble_eq_true rfl⟩ ⟨rfl, rfl⟩ (q0 := 0) (ci := 0) rfl rfl hI ⟨Nat.zero_le _, Nat.zero_le _⟩ (As := [.int p67.1, .int p95.1, .int p123.1]) rfl hl.1 (rest := []) (Nat.le_of_ble_eq_true rfl) rfl d_Mach_doCall_146 (fun H locs hI => ?_)
            replace h := Option.some.inj h
            subst h
            exact rb_retV C hr hI d_Mach_doCall_149
          · replace h := of_neg hc h
            replace h := Option.some.inj h
            subst h
            exact rb_retV C hr hI d_Mach_doCall_138
        · replace h := of_neg hc h
          replace h := Option.some.inj h
          subst h
          exact rb_retV C hr hI d_Mach_doCall_110
      · replace h := of_neg hc h
        replace h := Option.some.inj h
        subst h
        exact rb_retV C hr hI d_Mach_doCall_82
    · replace h := of_pos hc h
      refine lv_aload_n hx hb d_Mach_doCall_52 rfl (lv_at hl 2 rfl) ?_
      refine lv_iconst (v := 3) hx hb d_Mach_doCall_53 (by decide) ?_
      obtain ⟨p54, hp54, h⟩ := of_bind h
      refine rb_callV sxok C (c_Mach_raise hp54) cw_Mach_236 ⟨Nat.le_of_ble_eq_true rfl, Nat.le_of_ble_eq_true rfl⟩ ⟨rfl, rfl⟩ (q0 := 0) (ci := 0) rfl rfl hI ⟨Nat.zero_le _, Nat.zero_le _⟩ (As := [.int 3]) rfl hl.1 (rest := []) (Nat.le_of_ble_eq_true rfl) rfl d_Mach_doCall_54 (fun H locs hI => ?_)
      replace h := Option.some.inj h
      subst h
      exact rb_retV C hr hI d_Mach_doCall_57
  · replace h := of_pos hc h
    replace h := Option.some.inj h
    subst h
    exact rb_retV C hr hI d_Mach_doCall_26
theorem d_Mach_doReturn_0 : decode b_Mach_doReturn 0 = .ok (.aload_n 0, 1) := by decide +kernel
theorem d_Mach_doReturn_1 : decode b_Mach_doReturn 1 = .ok (.getfield 37, 3) := by decide +kernel
theorem d_Mach_doReturn_4 : decode b_Mach_doReturn 4 = .ok (.aload_n 0, 1) := by decide +kernel
theorem d_Mach_doReturn_5 : decode b_Mach_doReturn 5 = .ok (.getfield 37, 3) := by decide +kernel
theorem d_Mach_doReturn_8 : decode b_Mach_doReturn 8 = .ok (.getfield 94, 3) := by decide +kernel
theorem d_Mach_doReturn_11 : decode b_Mach_doReturn 11 = .ok (.iload_n 1, 1) := by decide +kernel
theorem d_Mach_doReturn_12 : decode b_Mach_doReturn 12 = .ok (.invokevirtual 182, 3) := by decide +kernel
theorem d_Mach_doReturn_15 : decode b_Mach_doReturn 15 = .ok (.istore_n 3, 1) := by decide +kernel
theorem d_Mach_doReturn_16 : decode b_Mach_doReturn 16 = .ok (.aload_n 0, 1) := by decide +kernel
theorem d_Mach_doReturn_17 : decode b_Mach_doReturn 17 = .ok (.getfield 37, 3) := by decide +kernel
theorem d_Mach_doReturn_20 : decode b_Mach_doReturn 20 = .ok (.getfield 121, 3) := by decide +kernel
theorem d_Mach_doReturn_23 : decode b_Mach_doReturn 23 = .ok (.ifCond .eq 4, 3) := by decide +kernel
theorem d_Mach_doReturn_26 : decode b_Mach_doReturn 26 = .ok (.return_, 1) := by decide +kernel
theorem d_Mach_doReturn_27 : decode b_Mach_doReturn 27 = .ok (.aload_n 0, 1) := by decide +kernel
theorem d_Mach_doReturn_28 : decode b_Mach_doReturn 28 = .ok (.getfield 37, 3) := by decide +kernel
theorem d_Mach_doReturn_31 : decode b_Mach_doReturn 31 = .ok (.aload_n 0, 1) := by decide +kernel
theorem d_Mach_doReturn_32 : decode b_Mach_doReturn 32 = .ok (.getfield 37, 3) := by decide +kernel
theorem d_Mach_doReturn_35 : decode b_Mach_doReturn 35 = .ok (.getfield 94, 3) := by decide +kernel
theorem d_Mach_doReturn_38 : decode b_Mach_doReturn 38 = .ok (.iconst 3, 1) := by decide +kernel
theorem d_Mach_doReturn_39 : decode b_Mach_doReturn 39 = .ok (.invokevirtual 182, 3) := by decide +kernel
theorem d_Mach_doReturn_42 : decode b_Mach_doReturn 42 = .ok (.istore 4, 2) := by decide +kernel
theorem d_Mach_doReturn_44 : decode b_Mach_doReturn 44 = .ok (.aload_n 0, 1) := by decide +kernel
theorem d_Mach_doReturn_45 : decode b_Mach_doReturn 45 = .ok (.getfield 37, 3) := by decide +kernel
theorem d_Mach_doReturn_48 : decode b_Mach_doReturn 48 = .ok (.getfield 121, 3) := by decide +kernel
theorem d_Mach_doReturn_51 : decode b_Mach_doReturn 51 = .ok (.ifCond .eq 4, 3) := by decide +kernel
theorem d_Mach_doReturn_54 : decode b_Mach_doReturn 54 = .ok (.return_, 1) := by decide +kernel
theorem d_Mach_doReturn_55 : decode b_Mach_doReturn 55 = .ok (.aload_n 0, 1) := by decide +kernel
theorem d_Mach_doReturn_56 : decode b_Mach_doReturn 56 = .ok (.iload_n 2, 1) := by decide +kernel
theorem d_Mach_doReturn_57 : decode b_Mach_doReturn 57 = .ok (.invokevirtual 200, 3) := by decide +kernel
theorem d_Mach_doReturn_60 : decode b_Mach_doReturn 60 = .ok (.istore 5, 2) := by decide +kernel
theorem d_Mach_doReturn_62 : decode b_Mach_doReturn 62 = .ok (.iload 4, 2) := by decide +kernel
theorem d_Mach_doReturn_64 : decode b_Mach_doReturn 64 = .ok (.iconst (-1), 1) := by decide +kernel
theorem d_Mach_doReturn_65 : decode b_Mach_doReturn 65 = .ok (.if_icmp .ne 15, 3) := by decide +kernel
theorem d_Mach_doReturn_68 : decode b_Mach_doReturn 68 = .ok (.aload_n 0, 1) := by decide +kernel
theorem d_Mach_doReturn_69 : decode b_Mach_doReturn 69 = .ok (.iconst 1, 1) := by decide +kernel
theorem d_Mach_doReturn_70 : decode b_Mach_doReturn 70 = .ok (.putfield 45, 3) := by decide +kernel
theorem d_Mach_doReturn_73 : decode b_Mach_doReturn 73 = .ok (.aload_n 0, 1) := by decide +kernel
theorem d_Mach_doReturn_74 : decode b_Mach_doReturn 74 = .ok (.iload 5, 2) := by decide +kernel
theorem d_Mach_doReturn_76 : decode b_Mach_doReturn 76 = .ok (.putfield 100, 3) := by decide +kernel
theorem d_Mach_doReturn_79 : decode b_Mach_doReturn 79 = .ok (.return_, 1) := by decide +kernel
theorem d_Mach_doReturn_80 : decode b_Mach_doReturn 80 = .ok (.aload_n 0, 1) := by decide +kernel
theorem d_Mach_doReturn_81 : decode b_Mach_doReturn 81 = .ok (.getfield 37, 3) := by decide +kernel
theorem d_Mach_doReturn_84 : decode b_Mach_doReturn 84 = .ok (.iload 4, 2) := by decide +kernel
theorem d_Mach_doReturn_86 : decode b_Mach_doReturn 86 = .ok (.putfield 94, 3) := by decide +kernel
theorem d_Mach_doReturn_89 : decode b_Mach_doReturn 89 = .ok (.aload_n 0, 1) := by decide +kernel
theorem d_Mach_doReturn_90 : decode b_Mach_doReturn 90 = .ok (.getfield 37, 3) := by decide +kernel
theorem d_Mach_doReturn_93 : decode b_Mach_doReturn 93 = .ok (.iload 4, 2) := by decide +kernel
theorem d_Mach_doReturn_95 : decode b_Mach_doReturn 95 = .ok (.iconst 2, 1) := by decide +kernel
theorem d_Mach_doReturn_96 : decode b_Mach_doReturn 96 = .ok (.iload_n 3, 1) := by decide +kernel
theorem d_Mach_doReturn_97 : decode b_Mach_doReturn 97 = .ok (.invokevirtual 209, 3) := by decide +kernel
theorem d_Mach_doReturn_100 : decode b_Mach_doReturn 100 = .ok (.aload_n 0, 1) := by decide +kernel
theorem d_Mach_doReturn_101 : decode b_Mach_doReturn 101 = .ok (.iconst 2, 1) := by decide +kernel
theorem d_Mach_doReturn_102 : decode b_Mach_doReturn 102 = .ok (.iload 5, 2) := by decide +kernel
theorem d_Mach_doReturn_104 : decode b_Mach_doReturn 104 = .ok (.invokevirtual 179, 3) := by decide +kernel
theorem d_Mach_doReturn_107 : decode b_Mach_doReturn 107 = .ok (.return_, 1) := by decide +kernel
abbrev rm_Mach_doReturn : Room := { frames := 4, cells := 0, slots := 0, locals := 132 }
set_option maxHeartbeats 4000000 in
set_option maxRecDepth 100000 in
theorem c_Mach_doReturn {l : Launch} {dC : Nat → ClassId} {dI : Nat → Nat → Nat} {a : Nat → Nat} {cI : ClassId} {L : Nat} {tt : Nat → Nat} {σ : St} {x1 x2 : Int32} {q : St} (h : fMach_doReturn L σ x1 x2 = some q) : CV l (dC, dI) clA (tyX cI) (SXx tt) (wX a cI L σ) (wX a cI L q) y_Mach_doReturn b_Mach_doReturn 6 none rm_Mach_doReturn [.ref (a 0), .int x1, .int x2] := by
  refine CV_of (by decide) (Nat.le_of_ble_eq_true rfl) ?_
  intro pr e s m below meth c A ls C hr hl hI
  have hx := C.1
  have hb := C.2.1
  have hl : lv_has ls 6 [(0, .ref (a 0)), (1, .int x1), (2, .int x2)] := hl
  unfold fMach_doReturn at h
  refine lv_aload_n hx hb d_Mach_doReturn_0 rfl (lv_at hl 0 rfl) ?_
  refine gf_Mach_37 C hI d_Mach_doReturn_1 ?_
  refine lv_aload_n hx hb d_Mach_doReturn_4 rfl (lv_at hl 0 rfl) ?_
  refine gf_Mach_37 C hI d_Mach_doReturn_5 ?_
  refine gf_Mach_94 C hI (v := σ.1 11) rfl d_Mach_doReturn_8 ?_
  refine lv_iload_n hx hb d_Mach_doReturn_11 rfl (lv_at hl 1 rfl) ?_
  obtain ⟨p12, hp12, h⟩ := of_bind h
  refine rb_callI sxok C (c_Room_readRef hp12) cw_Mach_182 ⟨Nat.le_of_ble_eq_true rfl, Nat.le_of_ble_eq_true rfl⟩ ⟨rfl, rfl⟩ (q0 := 3) (ci := 3) rfl rfl hI ⟨Nat.zero_le _, Nat.zero_le _⟩ (As := [.int (σ.1 11), .int x1]) rfl hl.1 (rest := []) (Nat.le_of_ble_eq_true rfl) rfl d_Mach_doReturn_12 (fun H locs hI => ?_)
  refine lv_istore_n (lv' := [(3, .int p12.1), (0, .ref (a 0)), (1, .int x1), (2, .int x2)]) hx hb d_Mach_doReturn_15 rfl hl (by decide) rfl (fun ls hl => ?_)
  refine lv_aload_n hx hb d_Mach_doReturn_16 rfl (lv_at hl 1 rfl) ?_
  refine gf_Mach_37 C hI d_Mach_doReturn_17 ?_
  refine gf_Mach_121 C hI (v := p12.2.1 20) rfl d_Mach_doReturn_20 ?_
  refine lv_if_eq (tgt := 27) hx hb d_Mach_doReturn_23 (by decide) (fun hc => ?_) (fun hc => ?_)
  · replace h := of_pos hc h
    refine lv_aload_n hx hb d_Mach_doReturn_27 rfl (lv_at hl 1 rfl) ?_
    refine gf_Mach_37 C hI d_Mach_doReturn_28 ?_
    refine lv_aload_n hx hb d_Mach_doReturn_31 rfl (lv_at hl 1 rfl) ?_
    refine gf_Mach_37 C hI d_Mach_doReturn_32 ?_
    refine gf_Mach_94 C hI (v := p12.2.1 11) rfl d_Mach_doReturn_35 ?_
    refine lv_iconst (v := 3) hx hb d_Mach_doReturn_38 (by decide) ?_
    obtain ⟨p39, hp39, h⟩ := of_bind h
    refine rb_callI sxok C (c_Room_readRef hp39) cw_Mach_182 ⟨Nat.le_of_ble_eq_true rfl, Nat.le_of_ble_eq_true rfl⟩ ⟨rfl, rfl⟩ (q0 := 3) (ci := 3) rfl rfl hI ⟨Nat.zero_le _, Nat.zero_le _⟩ (As := [.int (p12.2.1 11), .int 3]) rfl hl.1 (rest := []) (Nat.le_of_ble_eq_true rfl) rfl d_Mach_doReturn_39 (fun H locs hI => ?_)
    refine lv_istore (lv' := [(4, .int p39.1), (3, .int p12.1), (0, .ref (a 0)), (1, .int x1), (2, .int x2)]) hx hb d_Mach_doReturn_42 hl (by decide) rfl (fun ls hl => ?_)
    refine lv_aload_n hx hb d_Mach_doReturn_44 rfl (lv_at hl 2 rfl) ?_
    refine gf_Mach_37 C hI d_Mach_doReturn_45 ?_
    refine gf_Mach_121 C hI (v := p39.2.1 20) rfl d_Mach_doReturn_48 ?_
    refine lv_if_eq (tgt := 55) hx hb d_Mach_doReturn_51 (by decide) (fun hc => ?_) (fun hc => ?_)
    · replace h := of_pos hc h
      refine lv_aload_n hx hb d_Mach_doReturn_55 rfl (lv_at hl 2 rfl) ?_
      refine lv_iload_n hx hb d_Mach_doReturn_56 rfl (lv_at hl 4 rfl) ?_
      obtain ⟨p57, hp57, h⟩ := of_bind h
      refine rb_callI sxok C (c_Mach_numberIn hp57) cw_Mach_200 ⟨Nat.le_of_ble_eq_true rfl, Nat.le_of_ble_eq_true rfl⟩ ⟨rfl, rfl⟩ (q0 := 0) (ci := 0) rfl rfl hI ⟨Nat.zero_le _, Nat.zero_le _⟩ (As := [.int x2]) rfl hl.1 (rest := []) (Nat.le_of_ble_eq_true rfl) rfl d_Mach_doReturn_57 (fun H locs hI => ?_)
      refine lv_istore (lv' := [(5, .int p57.1), (4, .int p39.1), (3, .int p12.1), (0, .ref (a 0)), (1, .int x1), (2, .int x2)]) hx hb d_Mach_doReturn_60 hl (by decide) rfl (fun ls hl => ?_)
      refine lv_iload hx hb d_Mach_doReturn_62 (lv_at hl 1 rfl) ?_
      refine lv_iconst (v := (-1)) hx hb d_Mach_doReturn_64 (by decide) ?_
      refine lv_icmp_ne (tgt := 80) hx hb d_Mach_doReturn_65 (by decide) (fun hc => ?_) (fun hc => ?_)
      · replace h := of_neg hc h
        refine lv_aload_n hx hb d_Mach_doReturn_80 rfl (lv_at hl 3 rfl) ?_
        refine gf_Mach_37 C hI d_Mach_doReturn_81 ?_
        refine lv_iload hx hb d_Mach_doReturn_84 (lv_at hl 1 rfl) ?_
        refine pf_Mach_94 C hI (σ' := (upd p57.2.1 11 p39.1, p57.2.2)) rfl d_Mach_doReturn_86 (fun H locs hI => ?_)
        refine lv_aload_n hx hb d_Mach_doReturn_89 rfl (lv_at hl 3 rfl) ?_
        refine gf_Mach_37 C hI d_Mach_doReturn_90 ?_
        refine lv_iload hx hb d_Mach_doReturn_93 (lv_at hl 1 rfl) ?_
        refine lv_iconst (v := 2) hx hb d_Mach_doReturn_95 (by decide) ?_
        refine lv_iload_n hx hb d_Mach_doReturn_96 rfl (lv_at hl 2 rfl) ?_
        obtain ⟨p97, hp97, h⟩ := of_bind h
        refine rb_callV sxok C (c_Room_setRef hp97) cw_Mach_209 ⟨Nat.le_of_ble_eq_true rfl, Nat.le_of_ble_eq_true rfl⟩ ⟨rfl, rfl⟩ (q0 := 3) (ci := 3) rfl rfl hI ⟨Nat.zero_le _, Nat.zero_le _⟩ (As := [.int p39.1, .int 2, .int p12.1]) rfl hl.1 (rest := []) (Nat.le_of_ble_eq_true rfl) rfl d_Mach_doReturn_97 (fun H locs hI => ?_)
        refine lv_aload_n hx hb d_Mach_doReturn_100 rfl (lv_at hl 3 rfl) ?_
        refine lv_iconst (v := 2) hx hb d_Mach_doReturn_101 (by decide) ?_
        refine lv_iload hx hb d_Mach_doReturn_102 (lv_at hl 0 rfl) ?_
        obtain ⟨p104, hp104, h⟩ := of_bind h
        refine rb_callV sxok C (c_Mach_setNumber hp104) cw_Mach_179 ⟨Nat.le_of_ble_eq_true rfl, Nat.le_of_ble_eq_true rfl⟩ ⟨rfl, rfl⟩ (q0 := 0) (ci := 0) rfl rfl hI ⟨Nat.zero_le _, Nat.zero_le _⟩ (As := [.int 2, .int p57.1]) rfl hl.1 (rest := []) (Nat.le_of_ble_eq_true rfl) rfl d_Mach_doReturn_104 (fun H locs hI => ?_)
        replace h := Option.some.inj h
        subst h
        exact rb_retV C hr hI d_Mach_doReturn_107
      · replace h := of_pos hc h
        refine lv_aload_n hx hb d_Mach_doReturn_68 rfl (lv_at hl 3 rfl) ?_
        refine lv_iconst (v := 1) hx hb d_Mach_doReturn_69 (by decide) ?_
        refine pf_Mach_45 C hI (σ' := (upd p57.2.1 1 1, p57.2.2)) rfl d_Mach_doReturn_70 (fun H locs hI => ?_)
        refine lv_aload_n hx hb d_Mach_doReturn_73 rfl (lv_at hl 3 rfl) ?_
        refine lv_iload hx hb d_Mach_doReturn_74 (lv_at hl 0 rfl) ?_
        refine pf_Mach_100 C hI (σ' := (upd (upd p57.2.1 1 1) 2 p57.1, p57.2.2)) rfl d_Mach_doReturn_76 (fun H locs hI => ?_)
        replace h := Option.some.inj h
        subst h
        exact rb_retV C hr hI d_Mach_doReturn_79
    · replace h := of_neg hc h
      replace h := Option.some.inj h
      subst h
      exact rb_retV C hr hI d_Mach_doReturn_54
  · replace h := of_neg hc h
    replace h := Option.some.inj h
    subst h
    exact rb_retV C hr hI d_Mach_doReturn_26
theorem d_Mach_passException_0 : decode b_Mach_passException 0 = .ok (.aload_n 0, 1) := by decide +kernel
theorem d_Mach_passException_1 : decode b_Mach_passException 1 = .ok (.getfield 19, 3) := by decide +kernel
theorem d_Mach_passException_4 : decode b_Mach_passException 4 = .ok (.getfield 167, 3) := by decide +kernel
theorem d_Mach_passException_7 : decode b_Mach_passException 7 = .ok (.aload_n 0, 1) := by decide +kernel
theorem d_Mach_passException_8 : decode b_Mach_passException 8 = .ok (.invokevirtual 170, 3) := by decide +kernel
theorem d_Mach_passException_11 : decode b_Mach_passException 11 = .ok (.iaload, 1) := by decide +kernel
theorem d_Mach_passException_12 : decode b_Mach_passException 12 = .ok (.istore_n 1, 1) := by decide +kernel
theorem d_Mach_passException_13 : decode b_Mach_passException 13 = .ok (.iload_n 1, 1) := by decide +kernel
theorem d_Mach_passException_14 : decode b_Mach_passException 14 = .ok (.iconst (-1), 1) := by decide +kernel
theorem d_Mach_passException_15 : decode b_Mach_passException 15 = .ok (.if_icmp .eq 23, 3) := by decide +kernel
theorem d_Mach_passException_18 : decode b_Mach_passException 18 = .ok (.aload_n 0, 1) := by decide +kernel
theorem d_Mach_passException_19 : decode b_Mach_passException 19 = .ok (.iload_n 1, 1) := by decide +kernel
theorem d_Mach_passException_20 : decode b_Mach_passException 20 = .ok (.invokevirtual 173, 3) := by decide +kernel
theorem d_Mach_passException_23 : decode b_Mach_passException 23 = .ok (.aload_n 0, 1) := by decide +kernel
theorem d_Mach_passException_24 : decode b_Mach_passException 24 = .ok (.iconst 2, 1) := by decide +kernel
theorem d_Mach_passException_25 : decode b_Mach_passException 25 = .ok (.aload_n 0, 1) := by decide +kernel
theorem d_Mach_passException_26 : decode b_Mach_passException 26 = .ok (.getfield 176, 3) := by decide +kernel
theorem d_Mach_passException_29 : decode b_Mach_passException 29 = .ok (.invokevirtual 179, 3) := by decide +kernel
theorem d_Mach_passException_32 : decode b_Mach_passException 32 = .ok (.aload_n 0, 1) := by decide +kernel
theorem d_Mach_passException_33 : decode b_Mach_passException 33 = .ok (.iconst 0, 1) := by decide +kernel
theorem d_Mach_passException_34 : decode b_Mach_passException 34 = .ok (.putfield 103, 3) := by decide +kernel
theorem d_Mach_passException_37 : decode b_Mach_passException 37 = .ok (.return_, 1) := by decide +kernel
theorem d_Mach_passException_38 : decode b_Mach_passException 38 = .ok (.aload_n 0, 1) := by decide +kernel
theorem d_Mach_passException_39 : decode b_Mach_passException 39 = .ok (.getfield 37, 3) := by decide +kernel
theorem d_Mach_passException_42 : decode b_Mach_passException 42 = .ok (.aload_n 0, 1) := by decide +kernel
theorem d_Mach_passException_43 : decode b_Mach_passException 43 = .ok (.getfield 37, 3) := by decide +kernel
theorem d_Mach_passException_46 : decode b_Mach_passException 46 = .ok (.getfield 94, 3) := by decide +kernel
theorem d_Mach_passException_49 : decode b_Mach_passException 49 = .ok (.iconst 3, 1) := by decide +kernel
theorem d_Mach_passException_50 : decode b_Mach_passException 50 = .ok (.invokevirtual 182, 3) := by decide +kernel
theorem d_Mach_passException_53 : decode b_Mach_passException 53 = .ok (.istore_n 2, 1) := by decide +kernel
theorem d_Mach_passException_54 : decode b_Mach_passException 54 = .ok (.aload_n 0, 1) := by decide +kernel
theorem d_Mach_passException_55 : decode b_Mach_passException 55 = .ok (.getfield 37, 3) := by decide +kernel
theorem d_Mach_passException_58 : decode b_Mach_passException 58 = .ok (.getfield 121, 3) := by decide +kernel
theorem d_Mach_passException_61 : decode b_Mach_passException 61 = .ok (.ifCond .eq 4, 3) := by decide +kernel
theorem d_Mach_passException_64 : decode b_Mach_passException 64 = .ok (.return_, 1) := by decide +kernel
theorem d_Mach_passException_65 : decode b_Mach_passException 65 = .ok (.iload_n 2, 1) := by decide +kernel
theorem d_Mach_passException_66 : decode b_Mach_passException 66 = .ok (.iconst (-1), 1) := by decide +kernel
theorem d_Mach_passException_67 : decode b_Mach_passException 67 = .ok (.if_icmp .ne 19, 3) := by decide +kernel
theorem d_Mach_passException_70 : decode b_Mach_passException 70 = .ok (.aload_n 0, 1) := by decide +kernel
theorem d_Mach_passException_71 : decode b_Mach_passException 71 = .ok (.iconst 2, 1) := by decide +kernel
theorem d_Mach_passException_72 : decode b_Mach_passException 72 = .ok (.putfield 45, 3) := by decide +kernel
theorem d_Mach_passException_75 : decode b_Mach_passException 75 = .ok (.aload_n 0, 1) := by decide +kernel
theorem d_Mach_passException_76 : decode b_Mach_passException 76 = .ok (.aload_n 0, 1) := by decide +kernel
theorem d_Mach_passException_77 : decode b_Mach_passException 77 = .ok (.getfield 176, 3) := by decide +kernel
theorem d_Mach_passException_80 : decode b_Mach_passException 80 = .ok (.putfield 100, 3) := by decide +kernel
theorem d_Mach_passException_83 : decode b_Mach_passException 83 = .ok (.goto 11, 3) := by decide +kernel
theorem d_Mach_passException_86 : decode b_Mach_passException 86 = .ok (.aload_n 0, 1) := by decide +kernel
theorem d_Mach_passException_87 : decode b_Mach_passException 87 = .ok (.getfield 37, 3) := by decide +kernel
theorem d_Mach_passException_90 : decode b_Mach_passException 90 = .ok (.iload_n 2, 1) := by decide +kernel
theorem d_Mach_passException_91 : decode b_Mach_passException 91 = .ok (.putfield 94, 3) := by decide +kernel
theorem d_Mach_passException_94 : decode b_Mach_passException 94 = .ok (.return_, 1) := by decide +kernel
abbrev rm_Mach_passException : Room := { frames := 4, cells := 0, slots := 0, locals := 132 }
set_option maxHeartbeats 4000000 in
set_option maxRecDepth 100000 in
theorem c_Mach_passException {l : Launch} {dC : Nat → ClassId} {dI : Nat → Nat → Nat} {a : Nat → Nat} {cI : ClassId} {L : Nat} {tt : Nat → Nat} {σ : St} {q : St} (h : fMach_passException L σ = some q) : CV l (dC, dI) clA (tyX cI) (SXx tt) (wX a cI L σ) (wX a cI L q) y_Mach_passException b_Mach_passException 3 none rm_Mach_passException [.ref (a 0)] := by
  refine CV_of (by decide) (Nat.le_of_ble_eq_true rfl) ?_
  intro pr e s m below meth c A ls C hr hl hI
  have hx := C.1
  have hb := C.2.1
  have hl : lv_has ls 3 [(0, .ref (a 0))] := hl
  unfold fMach_passException at h
  refine lv_aload_n hx hb d_Mach_passException_0 rfl (lv_at hl 0 rfl) ?_
  refine gf_Mach_19 C hI d_Mach_passException_1 ?_
  refine gf_Mach_167 C hI d_Mach_passException_4 ?_
  refine lv_aload_n hx hb d_Mach_passException_7 rfl (lv_at hl 0 rfl) ?_
  obtain ⟨p8, hp8, h⟩ := of_bind h
  refine rb_callI sxok C (c_Mach_methodOfCurrent hp8) cw_Mach_170 ⟨Nat.le_of_ble_eq_true rfl, Nat.le_of_ble_eq_true rfl⟩ ⟨rfl, rfl⟩ (q0 := 0) (ci := 0) rfl rfl hI ⟨Nat.zero_le _, Nat.zero_le _⟩ (As := []) rfl hl.1 (rest := [.ref (a 8)]) (Nat.le_of_ble_eq_true rfl) rfl d_Mach_passException_8 (fun H locs hI => ?_)
  obtain ⟨hg11, h⟩ := of_guard h
  refine al_X_4 C hI (f := p8.2.2 4) rfl hg11 d_Mach_passException_11 ?_
  refine lv_istore_n (lv' := [(1, .int ((p8.2.2 4) p8.1.toNatClampNeg)), (0, .ref (a 0))]) hx hb d_Mach_passException_12 rfl hl (by decide) rfl (fun ls hl => ?_)
  refine lv_iload_n hx hb d_Mach_passException_13 rfl (lv_at hl 0 rfl) ?_
  refine lv_iconst (v := (-1)) hx hb d_Mach_passException_14 (by decide) ?_
  refine lv_icmp_eq (tgt := 38) hx hb d_Mach_passException_15 (by decide) (fun hc => ?_) (fun hc => ?_)
  · replace h := of_pos hc h
    refine lv_aload_n hx hb d_Mach_passException_38 rfl (lv_at hl 1 rfl) ?_
    refine gf_Mach_37 C hI d_Mach_passException_39 ?_
    refine lv_aload_n hx hb d_Mach_passException_42 rfl (lv_at hl 1 rfl) ?_
    refine gf_Mach_37 C hI d_Mach_passException_43 ?_
    refine gf_Mach_94 C hI (v := p8.2.1 11) rfl d_Mach_passException_46 ?_
    refine lv_iconst (v := 3) hx hb d_Mach_passException_49 (by decide) ?_
    obtain ⟨p50, hp50, h⟩ := of_bind h
    refine rb_callI sxok C (c_Room_readRef hp50) cw_Mach_182 ⟨Nat.le_of_ble_eq_true rfl, Nat.le_of_ble_eq_true rfl⟩ ⟨rfl, rfl⟩ (q0 := 3) (ci := 3) rfl rfl hI ⟨Nat.zero_le _, Nat.zero_le _⟩ (As := [.int (p8.2.1 11), .int 3]) rfl hl.1 (rest := []) (Nat.le_of_ble_eq_true rfl) rfl d_Mach_passException_50 (fun H locs hI => ?_)
    refine lv_istore_n (lv' := [(2, .int p50.1), (1, .int ((p8.2.2 4) p8.1.toNatClampNeg)), (0, .ref (a 0))]) hx hb d_Mach_passException_53 rfl hl (by decide) rfl (fun ls hl => ?_)
    refine lv_aload_n hx hb d_Mach_passException_54 rfl (lv_at hl 2 rfl) ?_
    refine gf_Mach_37 C hI d_Mach_passException_55 ?_
    refine gf_Mach_121 C hI (v := p50.2.1 20) rfl d_Mach_passException_58 ?_
    refine lv_if_eq (tgt := 65) hx hb d_Mach_passException_61 (by decide) (fun hc => ?_) (fun hc => ?_)
    · replace h := of_pos hc h
      refine lv_iload_n hx hb d_Mach_passException_65 rfl (lv_at hl 0 rfl) ?_
      refine lv_iconst (v := (-1)) hx hb d_Mach_passException_66 (by decide) ?_
      refine lv_icmp_ne (tgt := 86) hx hb d_Mach_passException_67 (by decide) (fun hc => ?_) (fun hc => ?_)
      · replace h := of_neg hc h
        refine lv_aload_n hx hb d_Mach_passException_86 rfl (lv_at hl 2 rfl) ?_
        refine gf_Mach_37 C hI d_Mach_passException_87 ?_
        refine lv_iload_n hx hb d_Mach_passException_90 rfl (lv_at hl 0 rfl) ?_
        refine pf_Mach_94 C hI (σ' := (upd p50.2.1 11 p50.1, p50.2.2)) rfl d_Mach_passException_91 (fun H locs hI => ?_)
        replace h := Option.some.inj h
        subst h
        exact rb_retV C hr hI d_Mach_passException_94
      · replace h := of_pos hc h
        refine lv_aload_n hx hb d_Mach_passException_70 rfl (lv_at hl 2 rfl) ?_
        refine lv_iconst (v := 2) hx hb d_Mach_passException_71 (by decide) ?_
        refine pf_Mach_45 C hI (σ' := (upd p50.2.1 1 2, p50.2.2)) rfl d_Mach_passException_72 (fun H locs hI => ?_)
        refine lv_aload_n hx hb d_Mach_passException_75 rfl (lv_at hl 2 rfl) ?_
        refine lv_aload_n hx hb d_Mach_passException_76 rfl (lv_at hl 2 rfl) ?_
        refine gf_Mach_176 C hI (v := p50.2.1 4) rfl d_Mach_passException_77 ?_
        refine pf_Mach_100 C hI (σ' := (upd (upd p50.2.1 1 2) 2 (p50.2.1 4), p50.2.2)) rfl d_Mach_passException_80 (fun H locs hI => ?_)
        refine lv_goto (tgt := 94) hx hb d_Mach_passException_83 (by decide) ?_
        replace h := Option.some.inj h
        subst h
        exact rb_retV C hr hI d_Mach_passException_94
    · replace h := of_neg hc h
      replace h := Option.some.inj h
      subst h
      exact rb_retV C hr hI d_Mach_passException_64
  · replace h := of_neg hc h
    refine lv_aload_n hx hb d_Mach_passException_18 rfl (lv_at hl 1 rfl) ?_
    refine lv_iload_n hx hb d_Mach_passException_19 rfl (lv_at hl 0 rfl) ?_
    obtain ⟨p20, hp20, h⟩ := of_bind h
    refine rb_callV sxok C (c_Mach_setPlace hp20) cw_Mach_173 ⟨Nat.le_of_ble_eq_true rfl, Nat.le_of_ble_eq_true rfl⟩ ⟨rfl, rfl⟩ (q0 := 0) (ci := 0) rfl rfl hI ⟨Nat.zero_le _, Nat.zero_le _⟩ (As := [.int ((p8.2.2 4) p8.1.toNatClampNeg)]) rfl hl.1 (rest := []) (Nat.le_of_ble_eq_true rfl) rfl d_Mach_passException_20 (fun H locs hI => ?_)
    refine lv_aload_n hx hb d_Mach_passException_23 rfl (lv_at hl 1 rfl) ?_
    refine lv_iconst (v := 2) hx hb d_Mach_passException_24 (by decide) ?_
    refine lv_aload_n hx hb d_Mach_passException_25 rfl (lv_at hl 1 rfl) ?_
    refine gf_Mach_176 C hI (v := p20.1 4) rfl d_Mach_passException_26 ?_
    obtain ⟨p29, hp29, h⟩ := of_bind h
    refine rb_callV sxok C (c_Mach_setNumber hp29) cw_Mach_179 ⟨Nat.le_of_ble_eq_true rfl, Nat.le_of_ble_eq_true rfl⟩ ⟨rfl, rfl⟩ (q0 := 0) (ci := 0) rfl rfl hI ⟨Nat.zero_le _, Nat.zero_le _⟩ (As := [.int 2, .int (p20.1 4)]) rfl hl.1 (rest := []) (Nat.le_of_ble_eq_true rfl) rfl d_Mach_passException_29 (fun H locs hI => ?_)
    refine lv_aload_n hx hb d_Mach_passException_32 rfl (lv_at hl 1 rfl) ?_
    refine lv_iconst (v := 0) hx hb d_Mach_passException_33 (by decide) ?_
    refine pf_Mach_103 C hI (σ' := (upd p29.1 3 0, p29.2)) rfl (by decide) d_Mach_passException_34 (fun H locs hI => ?_)
    replace h := Option.some.inj h
    subst h
    exact rb_retV C hr hI d_Mach_passException_37
theorem d_Mach_doVoid_0 : decode b_Mach_doVoid 0 = .ok (.aload_n 0, 1) := by decide +kernel
theorem d_Mach_doVoid_1 : decode b_Mach_doVoid 1 = .ok (.getfield 37, 3) := by decide +kernel
theorem d_Mach_doVoid_4 : decode b_Mach_doVoid 4 = .ok (.aload_n 0, 1) := by decide +kernel
theorem d_Mach_doVoid_5 : decode b_Mach_doVoid 5 = .ok (.getfield 37, 3) := by decide +kernel
theorem d_Mach_doVoid_8 : decode b_Mach_doVoid 8 = .ok (.getfield 94, 3) := by decide +kernel
theorem d_Mach_doVoid_11 : decode b_Mach_doVoid 11 = .ok (.iload_n 1, 1) := by decide +kernel
theorem d_Mach_doVoid_12 : decode b_Mach_doVoid 12 = .ok (.invokevirtual 182, 3) := by decide +kernel
theorem d_Mach_doVoid_15 : decode b_Mach_doVoid 15 = .ok (.iconst (-1), 1) := by decide +kernel
theorem d_Mach_doVoid_16 : decode b_Mach_doVoid 16 = .ok (.if_icmp .ne 8, 3) := by decide +kernel
theorem d_Mach_doVoid_19 : decode b_Mach_doVoid 19 = .ok (.aload_n 0, 1) := by decide +kernel
theorem d_Mach_doVoid_20 : decode b_Mach_doVoid 20 = .ok (.iload_n 2, 1) := by decide +kernel
theorem d_Mach_doVoid_21 : decode b_Mach_doVoid 21 = .ok (.invokevirtual 173, 3) := by decide +kernel
theorem d_Mach_doVoid_24 : decode b_Mach_doVoid 24 = .ok (.return_, 1) := by decide +kernel
abbrev rm_Mach_doVoid : Room := { frames := 4, cells := 0, slots := 0, locals := 132 }
set_option maxHeartbeats 4000000 in
set_option maxRecDepth 100000 in
theorem c_Mach_doVoid {l : Launch} {dC : Nat → ClassId} {dI : Nat → Nat → Nat} {a : Nat → Nat} {cI : ClassId} {L : Nat} {tt : Nat → Nat} {σ : St} {x1 x2 : Int32} {q : St} (h : fMach_doVoid L σ x1 x2 = some q) : CV l (dC, dI) clA (tyX cI) (SXx tt) (wX a cI L σ) (wX a cI L q) y_Mach_doVoid b_Mach_doVoid 3 none rm_Mach_doVoid [.ref (a 0), .int x1, .int x2] := by
  refine CV_of (by decide) (Nat.le_of_ble_eq_true rfl) ?_
  intro pr e s m below meth c A ls C hr hl hI
  have hx := C.1
  have hb := C.2.1
  have hl : lv_has ls 3 [(0, .ref (a 0)), (1, .int x1), (2, .int x2)] := hl
  unfold fMach_doVoid at h
  refine lv_aload_n hx hb d_Mach_doVoid_0 rfl (lv_at hl 0 rfl) ?_
  refine gf_Mach_37 C hI d_Mach_doVoid_1 ?_
  refine lv_aload_n hx hb d_Mach_doVoid_4 rfl (lv_at hl 0 rfl) ?_
  refine gf_Mach_37 C hI d_Mach_doVoid_5 ?_
  refine gf_Mach_94 C hI (v := σ.1 11) rfl d_Mach_doVoid_8 ?_
  refine lv_iload_n hx hb d_Mach_doVoid_11 rfl (lv_at hl 1 rfl) ?_
  obtain ⟨p12, hp12, h⟩ := of_bind h
  refine rb_callI sxok C (c_Room_readRef hp12) cw_Mach_182 ⟨Nat.le_of_ble_eq_true rfl, Nat.le_of_ble_eq_true rfl⟩ ⟨rfl, rfl⟩ (q0 := 3) (ci := 3) rfl rfl hI ⟨Nat.zero_le _, Nat.zero_le _⟩ (As := [.int (σ.1 11), .int x1]) rfl hl.1 (rest := []) (Nat.le_of_ble_eq_true rfl) rfl d_Mach_doVoid_12 (fun H locs hI => ?_)
  refine lv_iconst (v := (-1)) hx hb d_Mach_doVoid_15 (by decide) ?_
  refine lv_icmp_ne (tgt := 24) hx hb d_Mach_doVoid_16 (by decide) (fun hc => ?_) (fun hc => ?_)
  · replace h := of_neg hc h
    replace h := Option.some.inj h
    subst h
    exact rb_retV C hr hI d_Mach_doVoid_24
  · replace h := of_pos hc h
    refine lv_aload_n hx hb d_Mach_doVoid_19 rfl (lv_at hl 0 rfl) ?_
    refine lv_iload_n hx hb d_Mach_doVoid_20 rfl (lv_at hl 2 rfl) ?_
    obtain ⟨p21, hp21, h⟩ := of_bind h
    refine rb_callV sxok C (c_Mach_setPlace hp21) cw_Mach_173 ⟨Nat.le_of_ble_eq_true rfl, Nat.le_of_ble_eq_true rfl⟩ ⟨rfl, rfl⟩ (q0 := 0) (ci := 0) rfl rfl hI ⟨Nat.zero_le _, Nat.zero_le _⟩ (As := [.int x2]) rfl hl.1 (rest := []) (Nat.le_of_ble_eq_true rfl) rfl d_Mach_doVoid_21 (fun H locs hI => ?_)
    replace h := Option.some.inj h
    subst h
    exact rb_retV C hr hI d_Mach_doVoid_24
theorem d_Mach_perform_0 : decode b_Mach_perform 0 = .ok (.aload_n 0, 1) := by decide +kernel
theorem d_Mach_perform_1 : decode b_Mach_perform 1 = .ok (.getfield 37, 3) := by decide +kernel
theorem d_Mach_perform_4 : decode b_Mach_perform 4 = .ok (.aload_n 0, 1) := by decide +kernel
theorem d_Mach_perform_5 : decode b_Mach_perform 5 = .ok (.getfield 37, 3) := by decide +kernel
theorem d_Mach_perform_8 : decode b_Mach_perform 8 = .ok (.getfield 94, 3) := by decide +kernel
theorem d_Mach_perform_11 : decode b_Mach_perform 11 = .ok (.iconst 3, 1) := by decide +kernel
theorem d_Mach_perform_12 : decode b_Mach_perform 12 = .ok (.invokevirtual 155, 3) := by decide +kernel
theorem d_Mach_perform_15 : decode b_Mach_perform 15 = .ok (.istore_n 1, 1) := by decide +kernel
theorem d_Mach_perform_16 : decode b_Mach_perform 16 = .ok (.aload_n 0, 1) := by decide +kernel
theorem d_Mach_perform_17 : decode b_Mach_perform 17 = .ok (.getfield 19, 3) := by decide +kernel
theorem d_Mach_perform_20 : decode b_Mach_perform 20 = .ok (.aload_n 0, 1) := by decide +kernel
theorem d_Mach_perform_21 : decode b_Mach_perform 21 = .ok (.invokevirtual 170, 3) := by decide +kernel
theorem d_Mach_perform_24 : decode b_Mach_perform 24 = .ok (.iload_n 1, 1) := by decide +kernel
theorem d_Mach_perform_25 : decode b_Mach_perform 25 = .ok (.invokevirtual 185, 3) := by decide +kernel
theorem d_Mach_perform_28 : decode b_Mach_perform 28 = .ok (.istore_n 2, 1) := by decide +kernel
theorem d_Mach_perform_29 : decode b_Mach_perform 29 = .ok (.aload_n 0, 1) := by decide +kernel
theorem d_Mach_perform_30 : decode b_Mach_perform 30 = .ok (.iload_n 1, 1) := by decide +kernel
theorem d_Mach_perform_31 : decode b_Mach_perform 31 = .ok (.iconst 1, 1) := by decide +kernel
theorem d_Mach_perform_32 : decode b_Mach_perform 32 = .ok (.iadd, 1) := by decide +kernel
theorem d_Mach_perform_33 : decode b_Mach_perform 33 = .ok (.invokevirtual 173, 3) := by decide +kernel
theorem d_Mach_perform_36 : decode b_Mach_perform 36 = .ok (.aload_n 0, 1) := by decide +kernel
theorem d_Mach_perform_37 : decode b_Mach_perform 37 = .ok (.getfield 19, 3) := by decide +kernel
theorem d_Mach_perform_40 : decode b_Mach_perform 40 = .ok (.getfield 188, 3) := by decide +kernel
theorem d_Mach_perform_43 : decode b_Mach_perform 43 = .ok (.iload_n 2, 1) := by decide +kernel
theorem d_Mach_perform_44 : decode b_Mach_perform 44 = .ok (.iaload, 1) := by decide +kernel
theorem d_Mach_perform_45 : decode b_Mach_perform 45 = .ok (.istore_n 3, 1) := by decide +kernel
theorem d_Mach_perform_46 : decode b_Mach_perform 46 = .ok (.aload_n 0, 1) := by decide +kernel
theorem d_Mach_perform_47 : decode b_Mach_perform 47 = .ok (.getfield 19, 3) := by decide +kernel
theorem d_Mach_perform_50 : decode b_Mach_perform 50 = .ok (.getfield 191, 3) := by decide +kernel
theorem d_Mach_perform_53 : decode b_Mach_perform 53 = .ok (.iload_n 2, 1) := by decide +kernel
theorem d_Mach_perform_54 : decode b_Mach_perform 54 = .ok (.iaload, 1) := by decide +kernel
theorem d_Mach_perform_55 : decode b_Mach_perform 55 = .ok (.istore 4, 2) := by decide +kernel
theorem d_Mach_perform_57 : decode b_Mach_perform 57 = .ok (.aload_n 0, 1) := by decide +kernel
theorem d_Mach_perform_58 : decode b_Mach_perform 58 = .ok (.getfield 19, 3) := by decide +kernel
theorem d_Mach_perform_61 : decode b_Mach_perform 61 = .ok (.getfield 194, 3) := by decide +kernel
theorem d_Mach_perform_64 : decode b_Mach_perform 64 = .ok (.iload_n 2, 1) := by decide +kernel
theorem d_Mach_perform_65 : decode b_Mach_perform 65 = .ok (.iaload, 1) := by decide +kernel
theorem d_Mach_perform_66 : decode b_Mach_perform 66 = .ok (.istore 5, 2) := by decide +kernel
theorem d_Mach_perform_68 : decode b_Mach_perform 68 = .ok (.aload_n 0, 1) := by decide +kernel
theorem d_Mach_perform_69 : decode b_Mach_perform 69 = .ok (.getfield 19, 3) := by decide +kernel
theorem d_Mach_perform_72 : decode b_Mach_perform 72 = .ok (.getfield 197, 3) := by decide +kernel
theorem d_Mach_perform_75 : decode b_Mach_perform 75 = .ok (.iload_n 2, 1) := by decide +kernel
theorem d_Mach_perform_76 : decode b_Mach_perform 76 = .ok (.iaload, 1) := by decide +kernel
theorem d_Mach_perform_77 : decode b_Mach_perform 77 = .ok (.tableswitch 268 0 15 #[79, 89, 110, 120, 130, 149, 161, 173, 185, 197, 206, 216, 226, 238, 248, 260], 79) := by decide +kernel
theorem d_Mach_perform_156 : decode b_Mach_perform 156 = .ok (.aload_n 0, 1) := by decide +kernel
theorem d_Mach_perform_157 : decode b_Mach_perform 157 = .ok (.iload_n 3, 1) := by decide +kernel
theorem d_Mach_perform_158 : decode b_Mach_perform 158 = .ok (.iload 5, 2) := by decide +kernel
theorem d_Mach_perform_160 : decode b_Mach_perform 160 = .ok (.invokevirtual 179, 3) := by decide +kernel
theorem d_Mach_perform_163 : decode b_Mach_perform 163 = .ok (.goto 182, 3) := by decide +kernel
theorem d_Mach_perform_166 : decode b_Mach_perform 166 = .ok (.aload_n 0, 1) := by decide +kernel
theorem d_Mach_perform_167 : decode b_Mach_perform 167 = .ok (.iload_n 3, 1) := by decide +kernel
theorem d_Mach_perform_168 : decode b_Mach_perform 168 = .ok (.aload_n 0, 1) := by decide +kernel
theorem d_Mach_perform_169 : decode b_Mach_perform 169 = .ok (.iload 4, 2) := by decide +kernel
theorem d_Mach_perform_171 : decode b_Mach_perform 171 = .ok (.invokevirtual 200, 3) := by decide +kernel
theorem d_Mach_perform_174 : decode b_Mach_perform 174 = .ok (.aload_n 0, 1) := by decide +kernel
theorem d_Mach_perform_175 : decode b_Mach_perform 175 = .ok (.iload 5, 2) := by decide +kernel
theorem d_Mach_perform_177 : decode b_Mach_perform 177 = .ok (.invokevirtual 200, 3) := by decide +kernel
theorem d_Mach_perform_180 : decode b_Mach_perform 180 = .ok (.iadd, 1) := by decide +kernel
theorem d_Mach_perform_181 : decode b_Mach_perform 181 = .ok (.invokevirtual 179, 3) := by decide +kernel
theorem d_Mach_perform_184 : decode b_Mach_perform 184 = .ok (.goto 161, 3) := by decide +kernel
theorem d_Mach_perform_187 : decode b_Mach_perform 187 = .ok (.aload_n 0, 1) := by decide +kernel
theorem d_Mach_perform_188 : decode b_Mach_perform 188 = .ok (.iload_n 3, 1) := by decide +kernel
theorem d_Mach_perform_189 : decode b_Mach_perform 189 = .ok (.iload 5, 2) := by decide +kernel
theorem d_Mach_perform_191 : decode b_Mach_perform 191 = .ok (.invokevirtual 203, 3) := by decide +kernel
theorem d_Mach_perform_194 : decode b_Mach_perform 194 = .ok (.goto 151, 3) := by decide +kernel
theorem d_Mach_perform_197 : decode b_Mach_perform 197 = .ok (.aload_n 0, 1) := by decide +kernel
theorem d_Mach_perform_198 : decode b_Mach_perform 198 = .ok (.iload_n 3, 1) := by decide +kernel
theorem d_Mach_perform_199 : decode b_Mach_perform 199 = .ok (.iload 4, 2) := by decide +kernel
theorem d_Mach_perform_201 : decode b_Mach_perform 201 = .ok (.invokevirtual 206, 3) := by decide +kernel
theorem d_Mach_perform_204 : decode b_Mach_perform 204 = .ok (.goto 141, 3) := by decide +kernel
theorem d_Mach_perform_207 : decode b_Mach_perform 207 = .ok (.aload_n 0, 1) := by decide +kernel
theorem d_Mach_perform_208 : decode b_Mach_perform 208 = .ok (.getfield 37, 3) := by decide +kernel
theorem d_Mach_perform_211 : decode b_Mach_perform 211 = .ok (.aload_n 0, 1) := by decide +kernel
theorem d_Mach_perform_212 : decode b_Mach_perform 212 = .ok (.getfield 37, 3) := by decide +kernel
theorem d_Mach_perform_215 : decode b_Mach_perform 215 = .ok (.getfield 94, 3) := by decide +kernel
theorem d_Mach_perform_218 : decode b_Mach_perform 218 = .ok (.iload_n 3, 1) := by decide +kernel
theorem d_Mach_perform_219 : decode b_Mach_perform 219 = .ok (.iconst (-1), 1) := by decide +kernel
theorem d_Mach_perform_220 : decode b_Mach_perform 220 = .ok (.invokevirtual 209, 3) := by decide +kernel
theorem d_Mach_perform_223 : decode b_Mach_perform 223 = .ok (.goto 122, 3) := by decide +kernel
theorem d_Mach_perform_226 : decode b_Mach_perform 226 = .ok (.aload_n 0, 1) := by decide +kernel
theorem d_Mach_perform_227 : decode b_Mach_perform 227 = .ok (.iload_n 3, 1) := by decide +kernel
theorem d_Mach_perform_228 : decode b_Mach_perform 228 = .ok (.iload 4, 2) := by decide +kernel
theorem d_Mach_perform_230 : decode b_Mach_perform 230 = .ok (.iload 5, 2) := by decide +kernel
theorem d_Mach_perform_232 : decode b_Mach_perform 232 = .ok (.invokevirtual 212, 3) := by decide +kernel
theorem d_Mach_perform_235 : decode b_Mach_perform 235 = .ok (.goto 110, 3) := by decide +kernel
theorem d_Mach_perform_238 : decode b_Mach_perform 238 = .ok (.aload_n 0, 1) := by decide +kernel
theorem d_Mach_perform_239 : decode b_Mach_perform 239 = .ok (.iload_n 3, 1) := by decide +kernel
theorem d_Mach_perform_240 : decode b_Mach_perform 240 = .ok (.iload 4, 2) := by decide +kernel
theorem d_Mach_perform_242 : decode b_Mach_perform 242 = .ok (.iload 5, 2) := by decide +kernel
theorem d_Mach_perform_244 : decode b_Mach_perform 244 = .ok (.invokevirtual 215, 3) := by decide +kernel
theorem d_Mach_perform_247 : decode b_Mach_perform 247 = .ok (.goto 98, 3) := by decide +kernel
theorem d_Mach_perform_250 : decode b_Mach_perform 250 = .ok (.aload_n 0, 1) := by decide +kernel
theorem d_Mach_perform_251 : decode b_Mach_perform 251 = .ok (.iload_n 3, 1) := by decide +kernel
theorem d_Mach_perform_252 : decode b_Mach_perform 252 = .ok (.iload 4, 2) := by decide +kernel
theorem d_Mach_perform_254 : decode b_Mach_perform 254 = .ok (.iload 5, 2) := by decide +kernel
theorem d_Mach_perform_256 : decode b_Mach_perform 256 = .ok (.invokevirtual 218, 3) := by decide +kernel
theorem d_Mach_perform_259 : decode b_Mach_perform 259 = .ok (.goto 86, 3) := by decide +kernel
theorem d_Mach_perform_262 : decode b_Mach_perform 262 = .ok (.aload_n 0, 1) := by decide +kernel
theorem d_Mach_perform_263 : decode b_Mach_perform 263 = .ok (.iload_n 3, 1) := by decide +kernel
theorem d_Mach_perform_264 : decode b_Mach_perform 264 = .ok (.iload 4, 2) := by decide +kernel
theorem d_Mach_perform_266 : decode b_Mach_perform 266 = .ok (.iload 5, 2) := by decide +kernel
theorem d_Mach_perform_268 : decode b_Mach_perform 268 = .ok (.invokevirtual 221, 3) := by decide +kernel
theorem d_Mach_perform_271 : decode b_Mach_perform 271 = .ok (.goto 74, 3) := by decide +kernel
theorem d_Mach_perform_274 : decode b_Mach_perform 274 = .ok (.aload_n 0, 1) := by decide +kernel
theorem d_Mach_perform_275 : decode b_Mach_perform 275 = .ok (.iload 5, 2) := by decide +kernel
theorem d_Mach_perform_277 : decode b_Mach_perform 277 = .ok (.invokevirtual 173, 3) := by decide +kernel
theorem d_Mach_perform_280 : decode b_Mach_perform 280 = .ok (.goto 65, 3) := by decide +kernel
theorem d_Mach_perform_283 : decode b_Mach_perform 283 = .ok (.aload_n 0, 1) := by decide +kernel
theorem d_Mach_perform_284 : decode b_Mach_perform 284 = .ok (.iload_n 3, 1) := by decide +kernel
theorem d_Mach_perform_285 : decode b_Mach_perform 285 = .ok (.iload 5, 2) := by decide +kernel
theorem d_Mach_perform_287 : decode b_Mach_perform 287 = .ok (.invokevirtual 224, 3) := by decide +kernel
theorem d_Mach_perform_290 : decode b_Mach_perform 290 = .ok (.goto 55, 3) := by decide +kernel
theorem d_Mach_perform_293 : decode b_Mach_perform 293 = .ok (.aload_n 0, 1) := by decide +kernel
theorem d_Mach_perform_294 : decode b_Mach_perform 294 = .ok (.iload_n 3, 1) := by decide +kernel
theorem d_Mach_perform_295 : decode b_Mach_perform 295 = .ok (.iload 5, 2) := by decide +kernel
theorem d_Mach_perform_297 : decode b_Mach_perform 297 = .ok (.invokevirtual 227, 3) := by decide +kernel
theorem d_Mach_perform_300 : decode b_Mach_perform 300 = .ok (.goto 45, 3) := by decide +kernel
theorem d_Mach_perform_303 : decode b_Mach_perform 303 = .ok (.aload_n 0, 1) := by decide +kernel
theorem d_Mach_perform_304 : decode b_Mach_perform 304 = .ok (.iload_n 3, 1) := by decide +kernel
theorem d_Mach_perform_305 : decode b_Mach_perform 305 = .ok (.iload 4, 2) := by decide +kernel
theorem d_Mach_perform_307 : decode b_Mach_perform 307 = .ok (.iload 5, 2) := by decide +kernel
theorem d_Mach_perform_309 : decode b_Mach_perform 309 = .ok (.invokevirtual 230, 3) := by decide +kernel
theorem d_Mach_perform_312 : decode b_Mach_perform 312 = .ok (.goto 33, 3) := by decide +kernel
theorem d_Mach_perform_315 : decode b_Mach_perform 315 = .ok (.aload_n 0, 1) := by decide +kernel
theorem d_Mach_perform_316 : decode b_Mach_perform 316 = .ok (.iload_n 3, 1) := by decide +kernel
theorem d_Mach_perform_317 : decode b_Mach_perform 317 = .ok (.iload 4, 2) := by decide +kernel
theorem d_Mach_perform_319 : decode b_Mach_perform 319 = .ok (.invokevirtual 233, 3) := by decide +kernel
theorem d_Mach_perform_322 : decode b_Mach_perform 322 = .ok (.goto 23, 3) := by decide +kernel
theorem d_Mach_perform_325 : decode b_Mach_perform 325 = .ok (.aload_n 0, 1) := by decide +kernel
theorem d_Mach_perform_326 : decode b_Mach_perform 326 = .ok (.aload_n 0, 1) := by decide +kernel
theorem d_Mach_perform_327 : decode b_Mach_perform 327 = .ok (.iload_n 3, 1) := by decide +kernel
theorem d_Mach_perform_328 : decode b_Mach_perform 328 = .ok (.invokevirtual 200, 3) := by decide +kernel
theorem d_Mach_perform_331 : decode b_Mach_perform 331 = .ok (.invokevirtual 236, 3) := by decide +kernel
theorem d_Mach_perform_334 : decode b_Mach_perform 334 = .ok (.goto 11, 3) := by decide +kernel
theorem d_Mach_perform_337 : decode b_Mach_perform 337 = .ok (.aload_n 0, 1) := by decide +kernel
theorem d_Mach_perform_338 : decode b_Mach_perform 338 = .ok (.iload_n 3, 1) := by decide +kernel
theorem d_Mach_perform_339 : decode b_Mach_perform 339 = .ok (.invokevirtual 239, 3) := by decide +kernel
theorem d_Mach_perform_342 : decode b_Mach_perform 342 = .ok (.goto 3, 3) := by decide +kernel
theorem d_Mach_perform_345 : decode b_Mach_perform 345 = .ok (.return_, 1) := by decide +kernel
abbrev rm_Mach_perform : Room := { frames := 6, cells := 0, slots := 0, locals := 184 }
set_option maxHeartbeats 4000000 in
set_option maxRecDepth 100000 in
theorem c_Mach_perform {l : Launch} {dC : Nat → ClassId} {dI : Nat → Nat → Nat} {a : Nat → Nat} {cI : ClassId} {L : Nat} {tt : Nat → Nat} {σ : St} {q : St} (h : fMach_perform L σ = some q) : CV l (dC, dI) clA (tyX cI) (SXx tt) (wX a cI L σ) (wX a cI L q) y_Mach_perform b_Mach_perform 6 none rm_Mach_perform [.ref (a 0)] := by
  refine CV_of (by decide) (Nat.le_of_ble_eq_true rfl) ?_
  intro pr e s m below meth c A ls C hr hl hI
  have hx := C.1
  have hb := C.2.1
  have hl : lv_has ls 6 [(0, .ref (a 0))] := hl
  unfold fMach_perform at h
  refine lv_aload_n hx hb d_Mach_perform_0 rfl (lv_at hl 0 rfl) ?_
  refine gf_Mach_37 C hI d_Mach_perform_1 ?_
  refine lv_aload_n hx hb d_Mach_perform_4 rfl (lv_at hl 0 rfl) ?_
  refine gf_Mach_37 C hI d_Mach_perform_5 ?_
  refine gf_Mach_94 C hI (v := σ.1 11) rfl d_Mach_perform_8 ?_
  refine lv_iconst (v := 3) hx hb d_Mach_perform_11 (by decide) ?_
  obtain ⟨p12, hp12, h⟩ := of_bind h
  refine rb_callI sxok C (c_Room_intOf hp12) cw_Mach_155 ⟨Nat.le_of_ble_eq_true rfl, Nat.le_of_ble_eq_true rfl⟩ ⟨rfl, rfl⟩ (q0 := 3) (ci := 3) rfl rfl hI ⟨Nat.zero_le _, Nat.zero_le _⟩ (As := [.int (σ.1 11), .int 3]) rfl hl.1 (rest := []) (Nat.le_of_ble_eq_true rfl) rfl d_Mach_perform_12 (fun H locs hI => ?_)
  refine lv_istore_n (lv' := [(1, .int p12.1), (0, .ref (a 0))]) hx hb d_Mach_perform_15 rfl hl (by decide) rfl (fun ls hl => ?_)
  refine lv_aload_n hx hb d_Mach_perform_16 rfl (lv_at hl 1 rfl) ?_
  refine gf_Mach_19 C hI d_Mach_perform_17 ?_
  refine lv_aload_n hx hb d_Mach_perform_20 rfl (lv_at hl 1 rfl) ?_
  obtain ⟨p21, hp21, h⟩ := of_bind h
  refine rb_callI sxok C (c_Mach_methodOfCurrent hp21) cw_Mach_170 ⟨Nat.le_of_ble_eq_true rfl, Nat.le_of_ble_eq_true rfl⟩ ⟨rfl, rfl⟩ (q0 := 0) (ci := 0) rfl rfl hI ⟨Nat.zero_le _, Nat.zero_le _⟩ (As := []) rfl hl.1 (rest := [.ref (a 2)]) (Nat.le_of_ble_eq_true rfl) rfl d_Mach_perform_21 (fun H locs hI => ?_)
  refine lv_iload_n hx hb d_Mach_perform_24 rfl (lv_at hl 0 rfl) ?_
  obtain ⟨p25, hp25, h⟩ := of_bind h
  refine rb_callI sxok C (c_Meths_find hp25) cw_Mach_185 ⟨Nat.le_of_ble_eq_true rfl, Nat.le_of_ble_eq_true rfl⟩ ⟨rfl, rfl⟩ (q0 := 2) (ci := 2) rfl rfl hI ⟨Nat.zero_le _, Nat.zero_le _⟩ (As := [.int p21.1, .int p12.1]) rfl hl.1 (rest := []) (Nat.le_of_ble_eq_true rfl) rfl d_Mach_perform_25 (fun H locs hI => ?_)
  refine lv_istore_n (lv' := [(2, .int p25.1), (1, .int p12.1), (0, .ref (a 0))]) hx hb d_Mach_perform_28 rfl hl (by decide) rfl (fun ls hl => ?_)
  refine lv_aload_n hx hb d_Mach_perform_29 rfl (lv_at hl 2 rfl) ?_
  refine lv_iload_n hx hb d_Mach_perform_30 rfl (lv_at hl 1 rfl) ?_
  refine lv_iconst (v := 1) hx hb d_Mach_perform_31 (by decide) ?_
  refine lv_iadd hx hb d_Mach_perform_32 ?_
  obtain ⟨p33, hp33, h⟩ := of_bind h
  refine rb_callV sxok C (c_Mach_setPlace hp33) cw_Mach_173 ⟨Nat.le_of_ble_eq_true rfl, Nat.le_of_ble_eq_true rfl⟩ ⟨rfl, rfl⟩ (q0 := 0) (ci := 0) rfl rfl hI ⟨Nat.zero_le _, Nat.zero_le _⟩ (As := [.int (p12.1 + 1)]) rfl hl.1 (rest := []) (Nat.le_of_ble_eq_true rfl) rfl d_Mach_perform_33 (fun H locs hI => ?_)
  refine lv_aload_n hx hb d_Mach_perform_36 rfl (lv_at hl 2 rfl) ?_
  refine gf_Mach_19 C hI d_Mach_perform_37 ?_
  refine gf_Mach_188 C hI d_Mach_perform_40 ?_
  refine lv_iload_n hx hb d_Mach_perform_43 rfl (lv_at hl 0 rfl) ?_
  obtain ⟨hg44, h⟩ := of_guard h
  refine al_X_7 C hI (f := p33.2 7) rfl hg44 d_Mach_perform_44 ?_
  refine lv_istore_n (lv' := [(3, .int ((p33.2 7) p25.1.toNatClampNeg)), (2, .int p25.1), (1, .int p12.1), (0, .ref (a 0))]) hx hb d_Mach_perform_45 rfl hl (by decide) rfl (fun ls hl => ?_)
  refine lv_aload_n hx hb d_Mach_perform_46 rfl (lv_at hl 3 rfl) ?_
  refine gf_Mach_19 C hI d_Mach_perform_47 ?_
  refine gf_Mach_191 C hI d_Mach_perform_50 ?_
  refine lv_iload_n hx hb d_Mach_perform_53 rfl (lv_at hl 1 rfl) ?_
  obtain ⟨hg54, h⟩ := of_guard h
  refine al_X_8 C hI (f := p33.2 8) rfl hg54 d_Mach_perform_54 ?_
  refine lv_istore (lv' := [(4, .int ((p33.2 8) p25.1.toNatClampNeg)), (3, .int ((p33.2 7) p25.1.toNatClampNeg)), (2, .int p25.1), (1, .int p12.1), (0, .ref (a 0))]) hx hb d_Mach_perform_55 hl (by decide) rfl (fun ls hl => ?_)
  refine lv_aload_n hx hb d_Mach_perform_57 rfl (lv_at hl 4 rfl) ?_
  refine gf_Mach_19 C hI d_Mach_perform_58 ?_
  refine gf_Mach_194 C hI d_Mach_perform_61 ?_
  refine lv_iload_n hx hb d_Mach_perform_64 rfl (lv_at hl 2 rfl) ?_
  obtain ⟨hg65, h⟩ := of_guard h
  refine al_X_9 C hI (f := p33.2 9) rfl hg65 d_Mach_perform_65 ?_
  refine lv_istore (lv' := [(5, .int ((p33.2 9) p25.1.toNatClampNeg)), (4, .int ((p33.2 8) p25.1.toNatClampNeg)), (3, .int ((p33.2 7) p25.1.toNatClampNeg)), (2, .int p25.1), (1, .int p12.1), (0, .ref (a 0))]) hx hb d_Mach_perform_66 hl (by decide) rfl (fun ls hl => ?_)
  refine lv_aload_n hx hb d_Mach_perform_68 rfl (lv_at hl 5 rfl) ?_
  refine gf_Mach_19 C hI d_Mach_perform_69 ?_
  refine gf_Mach_197 C hI d_Mach_perform_72 ?_
  refine lv_iload_n hx hb d_Mach_perform_75 rfl (lv_at hl 3 rfl) ?_
  obtain ⟨hg76, h⟩ := of_guard h
  refine al_X_6 C hI (f := p33.2 6) rfl hg76 d_Mach_perform_76 ?_
  by_cases hc0 : ((p33.2 6) p25.1.toNatClampNeg).toInt = 0
  · replace h := of_pos hc0 h
    refine rb_tabIn (k := 0) (tgt := 156) hx hb d_Mach_perform_77 hc0 (by decide) (by decide) rfl (by decide) ?_
    refine lv_aload_n hx hb d_Mach_perform_156 rfl (lv_at hl 5 rfl) ?_
    refine lv_iload_n hx hb d_Mach_perform_157 rfl (lv_at hl 2 rfl) ?_
    refine lv_iload hx hb d_Mach_perform_158 (lv_at hl 0 rfl) ?_
    obtain ⟨p160, hp160, h⟩ := of_bind h
    refine rb_callV sxok C (c_Mach_setNumber hp160) cw_Mach_179 ⟨Nat.le_of_ble_eq_true rfl, Nat.le_of_ble_eq_true rfl⟩ ⟨rfl, rfl⟩ (q0 := 0) (ci := 0) rfl rfl hI ⟨Nat.zero_le _, Nat.zero_le _⟩ (As := [.int ((p33.2 7) p25.1.toNatClampNeg), .int ((p33.2 9) p25.1.toNatClampNeg)]) rfl hl.1 (rest := []) (Nat.le_of_ble_eq_true rfl) rfl d_Mach_perform_160 (fun H locs hI => ?_)
    refine lv_goto (tgt := 345) hx hb d_Mach_perform_163 (by decide) ?_
    replace h := Option.some.inj h
    subst h
    exact rb_retV C hr hI d_Mach_perform_345
  replace h := of_neg hc0 h
  by_cases hc1 : ((p33.2 6) p25.1.toNatClampNeg).toInt = 1
  · replace h := of_pos hc1 h
    refine rb_tabIn (k := 1) (tgt := 166) hx hb d_Mach_perform_77 hc1 (by decide) (by decide) rfl (by decide) ?_
    refine lv_aload_n hx hb d_Mach_perform_166 rfl (lv_at hl 5 rfl) ?_
    refine lv_iload_n hx hb d_Mach_perform_167 rfl (lv_at hl 2 rfl) ?_
    refine lv_aload_n hx hb d_Mach_perform_168 rfl (lv_at hl 5 rfl) ?_
    refine lv_iload hx hb d_Mach_perform_169 (lv_at hl 1 rfl) ?_
    obtain ⟨p171, hp171, h⟩ := of_bind h
    refine rb_callI sxok C (c_Mach_numberIn hp171) cw_Mach_200 ⟨Nat.le_of_ble_eq_true rfl, Nat.le_of_ble_eq_true rfl⟩ ⟨rfl, rfl⟩ (q0 := 0) (ci := 0) rfl rfl hI ⟨Nat.zero_le _, Nat.zero_le _⟩ (As := [.int ((p33.2 8) p25.1.toNatClampNeg)]) rfl hl.1 (rest := [.int ((p33.2 7) p25.1.toNatClampNeg), .ref (a 0)]) (Nat.le_of_ble_eq_true rfl) rfl d_Mach_perform_171 (fun H locs hI => ?_)
    refine lv_aload_n hx hb d_Mach_perform_174 rfl (lv_at hl 5 rfl) ?_
    refine lv_iload hx hb d_Mach_perform_175 (lv_at hl 0 rfl) ?_
    obtain ⟨p177, hp177, h⟩ := of_bind h
    refine rb_callI sxok C (c_Mach_numberIn hp177) cw_Mach_200 ⟨Nat.le_of_ble_eq_true rfl, Nat.le_of_ble_eq_true rfl⟩ ⟨rfl, rfl⟩ (q0 := 0) (ci := 0) rfl rfl hI ⟨Nat.zero_le _, Nat.zero_le _⟩ (As := [.int ((p33.2 9) p25.1.toNatClampNeg)]) rfl hl.1 (rest := [.int p171.1, .int ((p33.2 7) p25.1.toNatClampNeg), .ref (a 0)]) (Nat.le_of_ble_eq_true rfl) rfl d_Mach_perform_177 (fun H locs hI => ?_)
    refine lv_iadd hx hb d_Mach_perform_180 ?_
    obtain ⟨p181, hp181, h⟩ := of_bind h
    refine rb_callV sxok C (c_Mach_setNumber hp181) cw_Mach_179 ⟨Nat.le_of_ble_eq_true rfl, Nat.le_of_ble_eq_true rfl⟩ ⟨rfl, rfl⟩ (q0 := 0) (ci := 0) rfl rfl hI ⟨Nat.zero_le _, Nat.zero_le _⟩ (As := [.int ((p33.2 7) p25.1.toNatClampNeg), .int (p171.1 + p177.1)]) rfl hl.1 (rest := []) (Nat.le_of_ble_eq_true rfl) rfl d_Mach_perform_181 (fun H locs hI => ?_)
    refine lv_goto (tgt := 345) hx hb d_Mach_perform_184 (by decide) ?_
    replace h := Option.some.inj h
    subst h
    exact rb_retV C hr hI d_Mach_perform_345
  replace h := of_neg hc1 h
  by_cases hc2 : ((p33.2 6) p25.1.toNatClampNeg).toInt = 2
  · replace h := of_pos hc2 h
    refine rb_tabIn (k := 2) (tgt := 187) hx hb d_Mach_perform_77 hc2 (by decide) (by decide) rfl (by decide) ?_
    refine lv_aload_n hx hb d_Mach_perform_187 rfl (lv_at hl 5 rfl) ?_
    refine lv_iload_n hx hb d_Mach_perform_188 rfl (lv_at hl 2 rfl) ?_
    refine lv_iload hx hb d_Mach_perform_189 (lv_at hl 0 rfl) ?_
    obtain ⟨p191, hp191, h⟩ := of_bind h
    refine rb_callV sxok C (c_Mach_doNew hp191) cw_Mach_203 ⟨Nat.le_of_ble_eq_true rfl, Nat.le_of_ble_eq_true rfl⟩ ⟨rfl, rfl⟩ (q0 := 0) (ci := 0) rfl rfl hI ⟨Nat.zero_le _, Nat.zero_le _⟩ (As := [.int ((p33.2 7) p25.1.toNatClampNeg), .int ((p33.2 9) p25.1.toNatClampNeg)]) rfl hl.1 (rest := []) (Nat.le_of_ble_eq_true rfl) rfl d_Mach_perform_191 (fun H locs hI => ?_)
    refine lv_goto (tgt := 345) hx hb d_Mach_perform_194 (by decide) ?_
    replace h := Option.some.inj h
    subst h
    exact rb_retV C hr hI d_Mach_perform_345
  replace h := of_neg hc2 h
  by_cases hc3 : ((p33.2 6) p25.1.toNatClampNeg).toInt = 3
  · replace h := of_pos hc3 h
    refine rb_tabIn (k := 3) (tgt := 197) hx hb d_Mach_perform_77 hc3 (by decide) (by decide) rfl (by decide) ?_
    refine lv_aload_n hx hb d_Mach_perform_197 rfl (lv_at hl 5 rfl) ?_
    refine lv_iload_n hx hb d_Mach_perform_198 rfl (lv_at hl 2 rfl) ?_
    refine lv_iload hx hb d_Mach_perform_199 (lv_at hl 1 rfl) ?_
    obtain ⟨p201, hp201, h⟩ := of_bind h
    refine rb_callV sxok C (c_Mach_doCopy hp201) cw_Mach_206 ⟨Nat.le_of_ble_eq_true rfl, Nat.le_of_ble_eq_true rfl⟩ ⟨rfl, rfl⟩ (q0 := 0) (ci := 0) rfl rfl hI ⟨Nat.zero_le _, Nat.zero_le _⟩ (As := [.int ((p33.2 7) p25.1.toNatClampNeg), .int ((p33.2 8) p25.1.toNatClampNeg)]) rfl hl.1 (rest := []) (Nat.le_of_ble_eq_true rfl) rfl d_Mach_perform_201 (fun H locs hI => ?_)
    refine lv_goto (tgt := 345) hx hb d_Mach_perform_204 (by decide) ?_
    replace h := Option.some.inj h
    subst h
    exact rb_retV C hr hI d_Mach_perform_345
  replace h := of_neg hc3 h
  by_cases hc4 : ((p33.2 6) p25.1.toNatClampNeg).toInt = 4
  · replace h := of_pos hc4 h
    refine rb_tabIn (k := 4) (tgt := 207) hx hb d_Mach_perform_77 hc4 (by decide) (by decide) rfl (by decide) ?_
    refine lv_aload_n hx hb d_Mach_perform_207 rfl (lv_at hl 5 rfl) ?_
    refine gf_Mach_37 C hI d_Mach_perform_208 ?_
    refine lv_aload_n hx hb d_Mach_perform_211 rfl (lv_at hl 5 rfl) ?_
    refine gf_Mach_37 C hI d_Mach_perform_212 ?_
    refine gf_Mach_94 C hI (v := p33.1 11) rfl d_Mach_perform_215 ?_
    refine lv_iload_n hx hb d_Mach_perform_218 rfl (lv_at hl 2 rfl) ?_
    refine lv_iconst (v := (-1)) hx hb d_Mach_perform_219 (by decide) ?_
    obtain ⟨p220, hp220, h⟩ := of_bind h
    refine rb_callV sxok C (c_Room_setRef hp220) cw_Mach_209 ⟨Nat.le_of_ble_eq_true rfl, Nat.le_of_ble_eq_true rfl⟩ ⟨rfl, rfl⟩ (q0 := 3) (ci := 3) rfl rfl hI ⟨Nat.zero_le _, Nat.zero_le _⟩ (As := [.int (p33.1 11), .int ((p33.2 7) p25.1.toNatClampNeg), .int (-1)]) rfl hl.1 (rest := []) (Nat.le_of_ble_eq_true rfl) rfl d_Mach_perform_220 (fun H locs hI => ?_)
    refine lv_goto (tgt := 345) hx hb d_Mach_perform_223 (by decide) ?_
    replace h := Option.some.inj h
    subst h
    exact rb_retV C hr hI d_Mach_perform_345
  replace h := of_neg hc4 h
  by_cases hc5 : ((p33.2 6) p25.1.toNatClampNeg).toInt = 5
  · replace h := of_pos hc5 h
    refine rb_tabIn (k := 5) (tgt := 226) hx hb d_Mach_perform_77 hc5 (by decide) (by decide) rfl (by decide) ?_
    refine lv_aload_n hx hb d_Mach_perform_226 rfl (lv_at hl 5 rfl) ?_
    refine lv_iload_n hx hb d_Mach_perform_227 rfl (lv_at hl 2 rfl) ?_
    refine lv_iload hx hb d_Mach_perform_228 (lv_at hl 1 rfl) ?_
    refine lv_iload hx hb d_Mach_perform_230 (lv_at hl 0 rfl) ?_
    obtain ⟨p232, hp232, h⟩ := of_bind h
    refine rb_callV sxok C (c_Mach_doGet hp232) cw_Mach_212 ⟨Nat.le_of_ble_eq_true rfl, Nat.le_of_ble_eq_true rfl⟩ ⟨rfl, rfl⟩ (q0 := 0) (ci := 0) rfl rfl hI ⟨Nat.zero_le _, Nat.zero_le _⟩ (As := [.int ((p33.2 7) p25.1.toNatClampNeg), .int ((p33.2 8) p25.1.toNatClampNeg), .int ((p33.2 9) p25.1.toNatClampNeg)]) rfl hl.1 (rest := []) (Nat.le_of_ble_eq_true rfl) rfl d_Mach_perform_232 (fun H locs hI => ?_)
    refine lv_goto (tgt := 345) hx hb d_Mach_perform_235 (by decide) ?_
    replace h := Option.some.inj h
    subst h
    exact rb_retV C hr hI d_Mach_perform_345
  replace h := of_neg hc5 h
  by_cases hc6 : ((p33.2 6) p25.1.toNatClampNeg).toInt = 6
  · replace h := of_pos hc6 h
    refine rb_tabIn (k := 6) (tgt := 238) hx hb d_Mach_perform_77 hc6 (by decide) (by decide) rfl (by decide) ?_
    refine lv_aload_n hx hb d_Mach_perform_238 rfl (lv_at hl 5 rfl) ?_
    refine lv_iload_n hx hb d_Mach_perform_239 rfl (lv_at hl 2 rfl) ?_
    refine lv_iload hx hb d_Mach_perform_240 (lv_at hl 1 rfl) ?_
    refine lv_iload hx hb d_Mach_perform_242 (lv_at hl 0 rfl) ?_
    obtain ⟨p244, hp244, h⟩ := of_bind h
    refine rb_callV sxok C (c_Mach_doPut hp244) cw_Mach_215 ⟨Nat.le_of_ble_eq_true rfl, Nat.le_of_ble_eq_true rfl⟩ ⟨rfl, rfl⟩ (q0 := 0) (ci := 0) rfl rfl hI ⟨Nat.zero_le _, Nat.zero_le _⟩ (As := [.int ((p33.2 7) p25.1.toNatClampNeg), .int ((p33.2 8) p25.1.toNatClampNeg), .int ((p33.2 9) p25.1.toNatClampNeg)]) rfl hl.1 (rest := []) (Nat.le_of_ble_eq_true rfl) rfl d_Mach_perform_244 (fun H locs hI => ?_)
    refine lv_goto (tgt := 345) hx hb d_Mach_perform_247 (by decide) ?_
    replace h := Option.some.inj h
    subst h
    exact rb_retV C hr hI d_Mach_perform_345
  replace h := of_neg hc6 h
  by_cases hc7 : ((p33.2 6) p25.1.toNatClampNeg).toInt = 7
  · replace h := of_pos hc7 h
    refine rb_tabIn (k := 7) (tgt := 250) hx hb d_Mach_perform_77 hc7 (by decide) (by decide) rfl (by decide) ?_
    refine lv_aload_n hx hb d_Mach_perform_250 rfl (lv_at hl 5 rfl) ?_
    refine lv_iload_n hx hb d_Mach_perform_251 rfl (lv_at hl 2 rfl) ?_
    refine lv_iload hx hb d_Mach_perform_252 (lv_at hl 1 rfl) ?_
    refine lv_iload hx hb d_Mach_perform_254 (lv_at hl 0 rfl) ?_
    obtain ⟨p256, hp256, h⟩ := of_bind h
    refine rb_callV sxok C (c_Mach_doLoad hp256) cw_Mach_218 ⟨Nat.le_of_ble_eq_true rfl, Nat.le_of_ble_eq_true rfl⟩ ⟨rfl, rfl⟩ (q0 := 0) (ci := 0) rfl rfl hI ⟨Nat.zero_le _, Nat.zero_le _⟩ (As := [.int ((p33.2 7) p25.1.toNatClampNeg), .int ((p33.2 8) p25.1.toNatClampNeg), .int ((p33.2 9) p25.1.toNatClampNeg)]) rfl hl.1 (rest := []) (Nat.le_of_ble_eq_true rfl) rfl d_Mach_perform_256 (fun H locs hI => ?_)
    refine lv_goto (tgt := 345) hx hb d_Mach_perform_259 (by decide) ?_
    replace h := Option.some.inj h
    subst h
    exact rb_retV C hr hI d_Mach_perform_345
  replace h := of_neg hc7 h
  by_cases hc8 : ((p33.2 6) p25.1.toNatClampNeg).toInt = 8
  · replace h := of_pos hc8 h
    refine rb_tabIn (k := 8) (tgt := 262) hx hb d_Mach_perform_77 hc8 (by decide) (by decide) rfl (by decide) ?_
    refine lv_aload_n hx hb d_Mach_perform_262 rfl (lv_at hl 5 rfl) ?_
    refine lv_iload_n hx hb d_Mach_perform_263 rfl (lv_at hl 2 rfl) ?_
    refine lv_iload hx hb d_Mach_perform_264 (lv_at hl 1 rfl) ?_
    refine lv_iload hx hb d_Mach_perform_266 (lv_at hl 0 rfl) ?_
    obtain ⟨p268, hp268, h⟩ := of_bind h
    refine rb_callV sxok C (c_Mach_doStore hp268) cw_Mach_221 ⟨Nat.le_of_ble_eq_true rfl, Nat.le_of_ble_eq_true rfl⟩ ⟨rfl, rfl⟩ (q0 := 0) (ci := 0) rfl rfl hI ⟨Nat.zero_le _, Nat.zero_le _⟩ (As := [.int ((p33.2 7) p25.1.toNatClampNeg), .int ((p33.2 8) p25.1.toNatClampNeg), .int ((p33.2 9) p25.1.toNatClampNeg)]) rfl hl.1 (rest := []) (Nat.le_of_ble_eq_true rfl) rfl d_Mach_perform_268 (fun H locs hI => ?_)
    refine lv_goto (tgt := 345) hx hb d_Mach_perform_271 (by decide) ?_
    replace h := Option.some.inj h
    subst h
    exact rb_retV C hr hI d_Mach_perform_345
  replace h := of_neg hc8 h
  by_cases hc9 : ((p33.2 6) p25.1.toNatClampNeg).toInt = 9
  · replace h := of_pos hc9 h
    refine rb_tabIn (k := 9) (tgt := 274) hx hb d_Mach_perform_77 hc9 (by decide) (by decide) rfl (by decide) ?_
    refine lv_aload_n hx hb d_Mach_perform_274 rfl (lv_at hl 5 rfl) ?_
    refine lv_iload hx hb d_Mach_perform_275 (lv_at hl 0 rfl) ?_
    obtain ⟨p277, hp277, h⟩ := of_bind h
    refine rb_callV sxok C (c_Mach_setPlace hp277) cw_Mach_173 ⟨Nat.le_of_ble_eq_true rfl, Nat.le_of_ble_eq_true rfl⟩ ⟨rfl, rfl⟩ (q0 := 0) (ci := 0) rfl rfl hI ⟨Nat.zero_le _, Nat.zero_le _⟩ (As := [.int ((p33.2 9) p25.1.toNatClampNeg)]) rfl hl.1 (rest := []) (Nat.le_of_ble_eq_true rfl) rfl d_Mach_perform_277 (fun H locs hI => ?_)
    refine lv_goto (tgt := 345) hx hb d_Mach_perform_280 (by decide) ?_
    replace h := Option.some.inj h
    subst h
    exact rb_retV C hr hI d_Mach_perform_345
  replace h := of_neg hc9 h
  by_cases hc10 : ((p33.2 6) p25.1.toNatClampNeg).toInt = 10
  · replace h := of_pos hc10 h
    refine rb_tabIn (k := 10) (tgt := 283) hx hb d_Mach_perform_77 hc10 (by decide) (by decide) rfl (by decide) ?_
    refine lv_aload_n hx hb d_Mach_perform_283 rfl (lv_at hl 5 rfl) ?_
    refine lv_iload_n hx hb d_Mach_perform_284 rfl (lv_at hl 2 rfl) ?_
    refine lv_iload hx hb d_Mach_perform_285 (lv_at hl 0 rfl) ?_
    obtain ⟨p287, hp287, h⟩ := of_bind h
    refine rb_callV sxok C (c_Mach_doZero hp287) cw_Mach_224 ⟨Nat.le_of_ble_eq_true rfl, Nat.le_of_ble_eq_true rfl⟩ ⟨rfl, rfl⟩ (q0 := 0) (ci := 0) rfl rfl hI ⟨Nat.zero_le _, Nat.zero_le _⟩ (As := [.int ((p33.2 7) p25.1.toNatClampNeg), .int ((p33.2 9) p25.1.toNatClampNeg)]) rfl hl.1 (rest := []) (Nat.le_of_ble_eq_true rfl) rfl d_Mach_perform_287 (fun H locs hI => ?_)
    refine lv_goto (tgt := 345) hx hb d_Mach_perform_290 (by decide) ?_
    replace h := Option.some.inj h
    subst h
    exact rb_retV C hr hI d_Mach_perform_345
  replace h := of_neg hc10 h
  by_cases hc11 : ((p33.2 6) p25.1.toNatClampNeg).toInt = 11
  · replace h := of_pos hc11 h
    refine rb_tabIn (k := 11) (tgt := 293) hx hb d_Mach_perform_77 hc11 (by decide) (by decide) rfl (by decide) ?_
    refine lv_aload_n hx hb d_Mach_perform_293 rfl (lv_at hl 5 rfl) ?_
    refine lv_iload_n hx hb d_Mach_perform_294 rfl (lv_at hl 2 rfl) ?_
    refine lv_iload hx hb d_Mach_perform_295 (lv_at hl 0 rfl) ?_
    obtain ⟨p297, hp297, h⟩ := of_bind h
    refine rb_callV sxok C (c_Mach_doVoid hp297) cw_Mach_227 ⟨Nat.le_of_ble_eq_true rfl, Nat.le_of_ble_eq_true rfl⟩ ⟨rfl, rfl⟩ (q0 := 0) (ci := 0) rfl rfl hI ⟨Nat.zero_le _, Nat.zero_le _⟩ (As := [.int ((p33.2 7) p25.1.toNatClampNeg), .int ((p33.2 9) p25.1.toNatClampNeg)]) rfl hl.1 (rest := []) (Nat.le_of_ble_eq_true rfl) rfl d_Mach_perform_297 (fun H locs hI => ?_)
    refine lv_goto (tgt := 345) hx hb d_Mach_perform_300 (by decide) ?_
    replace h := Option.some.inj h
    subst h
    exact rb_retV C hr hI d_Mach_perform_345
  replace h := of_neg hc11 h
  by_cases hc12 : ((p33.2 6) p25.1.toNatClampNeg).toInt = 12
  · replace h := of_pos hc12 h
    refine rb_tabIn (k := 12) (tgt := 303) hx hb d_Mach_perform_77 hc12 (by decide) (by decide) rfl (by decide) ?_
    refine lv_aload_n hx hb d_Mach_perform_303 rfl (lv_at hl 5 rfl) ?_
    refine lv_iload_n hx hb d_Mach_perform_304 rfl (lv_at hl 2 rfl) ?_
    refine lv_iload hx hb d_Mach_perform_305 (lv_at hl 1 rfl) ?_
    refine lv_iload hx hb d_Mach_perform_307 (lv_at hl 0 rfl) ?_
    obtain ⟨p309, hp309, h⟩ := of_bind h
    refine rb_callV sxok C (c_Mach_doCall hp309) cw_Mach_230 ⟨Nat.le_of_ble_eq_true rfl, Nat.le_of_ble_eq_true rfl⟩ ⟨rfl, rfl⟩ (q0 := 0) (ci := 0) rfl rfl hI ⟨Nat.zero_le _, Nat.zero_le _⟩ (As := [.int ((p33.2 7) p25.1.toNatClampNeg), .int ((p33.2 8) p25.1.toNatClampNeg), .int ((p33.2 9) p25.1.toNatClampNeg)]) rfl hl.1 (rest := []) (Nat.le_of_ble_eq_true rfl) rfl d_Mach_perform_309 (fun H locs hI => ?_)
    refine lv_goto (tgt := 345) hx hb d_Mach_perform_312 (by decide) ?_
    replace h := Option.some.inj h
    subst h
    exact rb_retV C hr hI d_Mach_perform_345
  replace h := of_neg hc12 h
  by_cases hc13 : ((p33.2 6) p25.1.toNatClampNeg).toInt = 13
  · replace h := of_pos hc13 h
    refine rb_tabIn (k := 13) (tgt := 315) hx hb d_Mach_perform_77 hc13 (by decide) (by decide) rfl (by decide) ?_
    refine lv_aload_n hx hb d_Mach_perform_315 rfl (lv_at hl 5 rfl) ?_
    refine lv_iload_n hx hb d_Mach_perform_316 rfl (lv_at hl 2 rfl) ?_
    refine lv_iload hx hb d_Mach_perform_317 (lv_at hl 1 rfl) ?_
    obtain ⟨p319, hp319, h⟩ := of_bind h
    refine rb_callV sxok C (c_Mach_doReturn hp319) cw_Mach_233 ⟨Nat.le_of_ble_eq_true rfl, Nat.le_of_ble_eq_true rfl⟩ ⟨rfl, rfl⟩ (q0 := 0) (ci := 0) rfl rfl hI ⟨Nat.zero_le _, Nat.zero_le _⟩ (As := [.int ((p33.2 7) p25.1.toNatClampNeg), .int ((p33.2 8) p25.1.toNatClampNeg)]) rfl hl.1 (rest := []) (Nat.le_of_ble_eq_true rfl) rfl d_Mach_perform_319 (fun H locs hI => ?_)
    refine lv_goto (tgt := 345) hx hb d_Mach_perform_322 (by decide) ?_
    replace h := Option.some.inj h
    subst h
    exact rb_retV C hr hI d_Mach_perform_345
  replace h := of_neg hc13 h
  by_cases hc14 : ((p33.2 6) p25.1.toNatClampNeg).toInt = 14
  · replace h := of_pos hc14 h
    refine rb_tabIn (k := 14) (tgt := 325) hx hb d_Mach_perform_77 hc14 (by decide) (by decide) rfl (by decide) ?_
    refine lv_aload_n hx hb d_Mach_perform_325 rfl (lv_at hl 5 rfl) ?_
    refine lv_aload_n hx hb d_Mach_perform_326 rfl (lv_at hl 5 rfl) ?_
    refine lv_iload_n hx hb d_Mach_perform_327 rfl (lv_at hl 2 rfl) ?_
    obtain ⟨p328, hp328, h⟩ := of_bind h
    refine rb_callI sxok C (c_Mach_numberIn hp328) cw_Mach_200 ⟨Nat.le_of_ble_eq_true rfl, Nat.le_of_ble_eq_true rfl⟩ ⟨rfl, rfl⟩ (q0 := 0) (ci := 0) rfl rfl hI ⟨Nat.zero_le _, Nat.zero_le _⟩ (As := [.int ((p33.2 7) p25.1.toNatClampNeg)]) rfl hl.1 (rest := [.ref (a 0)]) (Nat.le_of_ble_eq_true rfl) rfl d_Mach_perform_328 (fun H locs hI => ?_)
    obtain ⟨p331, hp331, h⟩ := of_bind h
    refine rb_callV sxok C (c_Mach_raise hp331) cw_Mach_236 ⟨Nat.le_of_ble_eq_true rfl, Nat.le_of_ble_eq_true rfl⟩ ⟨rfl, rfl⟩ (q0 := 0) (ci := 0) rfl rfl hI ⟨Nat.zero_le _, Nat.zero_le _⟩ (As := [.int p328.1]) rfl hl.1 (rest := []) (Nat.le_of_ble_eq_true rfl) rfl d_Mach_perform_331 (fun H locs hI => ?_)
    refine lv_goto (tgt := 345) hx hb d_Mach_perform_334 (by decide) ?_
    replace h := Option.some.inj h
    subst h
    exact rb_retV C hr hI d_Mach_perform_345
  replace h := of_neg hc14 h
  by_cases hc15 : ((p33.2 6) p25.1.toNatClampNeg).toInt = 15
  · replace h := of_pos hc15 h
    refine rb_tabIn (k := 15) (tgt := 337) hx hb d_Mach_perform_77 hc15 (by decide) (by decide) rfl (by decide) ?_
    refine lv_aload_n hx hb d_Mach_perform_337 rfl (lv_at hl 5 rfl) ?_
    refine lv_iload_n hx hb d_Mach_perform_338 rfl (lv_at hl 2 rfl) ?_
    obtain ⟨p339, hp339, h⟩ := of_bind h
    refine rb_callV sxok C (c_Mach_doShow hp339) cw_Mach_239 ⟨Nat.le_of_ble_eq_true rfl, Nat.le_of_ble_eq_true rfl⟩ ⟨rfl, rfl⟩ (q0 := 0) (ci := 0) rfl rfl hI ⟨Nat.zero_le _, Nat.zero_le _⟩ (As := [.int ((p33.2 7) p25.1.toNatClampNeg)]) rfl hl.1 (rest := []) (Nat.le_of_ble_eq_true rfl) rfl d_Mach_perform_339 (fun H locs hI => ?_)
    refine lv_goto (tgt := 345) hx hb d_Mach_perform_342 (by decide) ?_
    replace h := Option.some.inj h
    subst h
    exact rb_retV C hr hI d_Mach_perform_345
  replace h := of_neg hc15 h
  refine lv_tableOut (tgt := 345) hx hb d_Mach_perform_77 (by omega) (by decide) ?_
  replace h := Option.some.inj h
  subst h
  exact rb_retV C hr hI d_Mach_perform_345
theorem d_Mach_run_0 : decode b_Mach_run 0 = .ok (.iload_n 1, 1) := by decide +kernel
theorem d_Mach_run_1 : decode b_Mach_run 1 = .ok (.ifCond .lt 10, 3) := by decide +kernel
theorem d_Mach_run_4 : decode b_Mach_run 4 = .ok (.iload_n 1, 1) := by decide +kernel
theorem d_Mach_run_5 : decode b_Mach_run 5 = .ok (.sipush 200, 3) := by decide +kernel
theorem d_Mach_run_8 : decode b_Mach_run 8 = .ok (.if_icmp .le 5, 3) := by decide +kernel
theorem d_Mach_run_11 : decode b_Mach_run 11 = .ok (.iconst (-1), 1) := by decide +kernel
theorem d_Mach_run_12 : decode b_Mach_run 12 = .ok (.ireturn, 1) := by decide +kernel
theorem d_Mach_run_13 : decode b_Mach_run 13 = .ok (.aload_n 0, 1) := by decide +kernel
theorem d_Mach_run_14 : decode b_Mach_run 14 = .ok (.iconst 0, 1) := by decide +kernel
theorem d_Mach_run_15 : decode b_Mach_run 15 = .ok (.putfield 109, 3) := by decide +kernel
theorem d_Mach_run_18 : decode b_Mach_run 18 = .ok (.iconst 0, 1) := by decide +kernel
theorem d_Mach_run_19 : decode b_Mach_run 19 = .ok (.istore_n 2, 1) := by decide +kernel
theorem d_Mach_run_20 : decode b_Mach_run 20 = .ok (.iload_n 2, 1) := by decide +kernel
theorem d_Mach_run_21 : decode b_Mach_run 21 = .ok (.iload_n 1, 1) := by decide +kernel
theorem d_Mach_run_22 : decode b_Mach_run 22 = .ok (.if_icmp .ge 75, 3) := by decide +kernel
theorem d_Mach_run_25 : decode b_Mach_run 25 = .ok (.aload_n 0, 1) := by decide +kernel
theorem d_Mach_run_26 : decode b_Mach_run 26 = .ok (.getfield 45, 3) := by decide +kernel
theorem d_Mach_run_29 : decode b_Mach_run 29 = .ok (.ifCond .ne 68, 3) := by decide +kernel
theorem d_Mach_run_32 : decode b_Mach_run 32 = .ok (.aload_n 0, 1) := by decide +kernel
theorem d_Mach_run_33 : decode b_Mach_run 33 = .ok (.getfield 37, 3) := by decide +kernel
theorem d_Mach_run_36 : decode b_Mach_run 36 = .ok (.iconst 0, 1) := by decide +kernel
theorem d_Mach_run_37 : decode b_Mach_run 37 = .ok (.putfield 112, 3) := by decide +kernel
theorem d_Mach_run_40 : decode b_Mach_run 40 = .ok (.aload_n 0, 1) := by decide +kernel
theorem d_Mach_run_41 : decode b_Mach_run 41 = .ok (.getfield 103, 3) := by decide +kernel
theorem d_Mach_run_44 : decode b_Mach_run 44 = .ok (.ifCond .eq 10, 3) := by decide +kernel
theorem d_Mach_run_47 : decode b_Mach_run 47 = .ok (.aload_n 0, 1) := by decide +kernel
theorem d_Mach_run_48 : decode b_Mach_run 48 = .ok (.invokevirtual 115, 3) := by decide +kernel
theorem d_Mach_run_51 : decode b_Mach_run 51 = .ok (.goto 7, 3) := by decide +kernel
theorem d_Mach_run_54 : decode b_Mach_run 54 = .ok (.aload_n 0, 1) := by decide +kernel
theorem d_Mach_run_55 : decode b_Mach_run 55 = .ok (.invokevirtual 118, 3) := by decide +kernel
theorem d_Mach_run_58 : decode b_Mach_run 58 = .ok (.aload_n 0, 1) := by decide +kernel
theorem d_Mach_run_59 : decode b_Mach_run 59 = .ok (.getfield 37, 3) := by decide +kernel
theorem d_Mach_run_62 : decode b_Mach_run 62 = .ok (.getfield 121, 3) := by decide +kernel
theorem d_Mach_run_65 : decode b_Mach_run 65 = .ok (.ifCond .eq 8, 3) := by decide +kernel
theorem d_Mach_run_68 : decode b_Mach_run 68 = .ok (.aload_n 0, 1) := by decide +kernel
theorem d_Mach_run_69 : decode b_Mach_run 69 = .ok (.iconst 3, 1) := by decide +kernel
theorem d_Mach_run_70 : decode b_Mach_run 70 = .ok (.putfield 45, 3) := by decide +kernel
theorem d_Mach_run_73 : decode b_Mach_run 73 = .ok (.aload_n 0, 1) := by decide +kernel
theorem d_Mach_run_74 : decode b_Mach_run 74 = .ok (.aload_n 0, 1) := by decide +kernel
theorem d_Mach_run_75 : decode b_Mach_run 75 = .ok (.getfield 109, 3) := by decide +kernel
theorem d_Mach_run_78 : decode b_Mach_run 78 = .ok (.aload_n 0, 1) := by decide +kernel
theorem d_Mach_run_79 : decode b_Mach_run 79 = .ok (.getfield 37, 3) := by decide +kernel
theorem d_Mach_run_82 : decode b_Mach_run 82 = .ok (.getfield 112, 3) := by decide +kernel
theorem d_Mach_run_85 : decode b_Mach_run 85 = .ok (.invokestatic 31, 3) := by decide +kernel
theorem d_Mach_run_88 : decode b_Mach_run 88 = .ok (.putfield 109, 3) := by decide +kernel
theorem d_Mach_run_91 : decode b_Mach_run 91 = .ok (.iinc 2 1, 3) := by decide +kernel
theorem d_Mach_run_94 : decode b_Mach_run 94 = .ok (.goto (-74), 3) := by decide +kernel
theorem d_Mach_run_97 : decode b_Mach_run 97 = .ok (.iload_n 2, 1) := by decide +kernel
theorem d_Mach_run_98 : decode b_Mach_run 98 = .ok (.ireturn, 1) := by decide +kernel
abbrev rm_Mach_run : Room := { frames := 7, cells := 0, slots := 0, locals := 209 }
set_option maxHeartbeats 4000000 in
set_option maxRecDepth 100000 in
theorem j_Mach_run_B20_J73 {l : Launch} {dC : Nat → ClassId} {dI : Nat → Nat → Nat} {a : Nat → Nat} {cI : ClassId} {L : Nat} {tt : Nat → Nat} {pr : Program} {e : Env} {s : State} {m : MethodId} {args : Array Value} {below : List Frame} {meth : Method} {c : Code} {A : Nat → Prop} {ls : Array Slot} {H : Heap} {locs : List Loc} {σ : St} {x1 x2 : Int32} {q : Nat × (Int32 × St)} {Q : State → Prop} (C : Cx (dC, dI) clA (tyX cI) (SXx tt) pr s m args meth c b_Mach_run 3 y_Mach_run.cls A) (h : fMach_run_B20_J73 L σ x1 x2 = some q) (hl : lv_has ls 3 [(0, .ref (a 0)), (1, .int x1), (2, .int x2)]) (hI : Wi (dC, dI) clA (wX a cI L σ) s A H locs) (kC : q.1 = 1 → ∀ (ls : Array Slot) (H : Heap) (locs : List Loc), lv_has ls 3 [(0, .ref (a 0)), (1, .int x1), (2, .int q.2.1)] → Wi (dC, dI) clA (wX a cI L q.2.2) s A H locs → W pr l e rm_Mach_run s m args below meth c H locs 0 0 Q (F0 m 20 ls [])) (kX0 : q.1 = 0 → ∀ (ls : Array Slot) (H : Heap) (locs : List Loc), lv_has ls 3 [(0, .ref (a 0)), (1, .int x1), (2, .int q.2.1)] → Wi (dC, dI) clA (wX a cI L q.2.2) s A H locs → W pr l e rm_Mach_run s m args below meth c H locs 0 0 Q (F0 m 97 ls [])) : W pr l e rm_Mach_run s m args below meth c H locs 0 0 Q (F0 m 73 ls []) := by
  have hx := C.1
  have hb := C.2.1
  unfold fMach_run_B20_J73 at h
  refine lv_aload_n hx hb d_Mach_run_73 rfl (lv_at hl 0 rfl) ?_
  refine lv_aload_n hx hb d_Mach_run_74 rfl (lv_at hl 0 rfl) ?_
  refine gf_Mach_109 C hI (v := σ.1 5) rfl d_Mach_run_75 ?_
  refine lv_aload_n hx hb d_Mach_run_78 rfl (lv_at hl 0 rfl) ?_
  refine gf_Mach_37 C hI d_Mach_run_79 ?_
  refine gf_Mach_112 C hI (v := σ.1 19) rfl d_Mach_run_82 ?_
  refine mm_Mach_31 C hl.1 (Nat.le_of_ble_eq_true rfl) (Nat.le_of_ble_eq_true rfl) ⟨Nat.zero_le _, Nat.zero_le _⟩ d_Mach_run_85 ?_
  refine pf_Mach_109 C hI (σ' := (upd σ.1 5 (if (σ.1 5) < (σ.1 19) then (σ.1 19) else (σ.1 5)), σ.2)) rfl d_Mach_run_88 (fun H locs hI => ?_)
  refine lv_iinc (k := 2) (v := x2 + 1) (lv' := [(2, .int (x2 + 1)), (0, .ref (a 0)), (1, .int x1)]) hx hb d_Mach_run_91 hl rfl rfl (by decide) rfl (fun ls hl => ?_)
  refine lv_goto (tgt := 20) hx hb d_Mach_run_94 (by decide) ?_
  replace h := Option.some.inj h
  subst h
  exact kC rfl _ _ _ (lv_sub hl [1, 2, 0] rfl) hI
set_option maxHeartbeats 4000000 in
set_option maxRecDepth 100000 in
theorem j_Mach_run_B20_J58 {l : Launch} {dC : Nat → ClassId} {dI : Nat → Nat → Nat} {a : Nat → Nat} {cI : ClassId} {L : Nat} {tt : Nat → Nat} {pr : Program} {e : Env} {s : State} {m : MethodId} {args : Array Value} {below : List Frame} {meth : Method} {c : Code} {A : Nat → Prop} {ls : Array Slot} {H : Heap} {locs : List Loc} {σ : St} {x1 x2 : Int32} {q : Nat × (Int32 × St)} {Q : State → Prop} (C : Cx (dC, dI) clA (tyX cI) (SXx tt) pr s m args meth c b_Mach_run 3 y_Mach_run.cls A) (h : fMach_run_B20_J58 L σ x1 x2 = some q) (hl : lv_has ls 3 [(0, .ref (a 0)), (1, .int x1), (2, .int x2)]) (hI : Wi (dC, dI) clA (wX a cI L σ) s A H locs) (kC : q.1 = 1 → ∀ (ls : Array Slot) (H : Heap) (locs : List Loc), lv_has ls 3 [(0, .ref (a 0)), (1, .int x1), (2, .int q.2.1)] → Wi (dC, dI) clA (wX a cI L q.2.2) s A H locs → W pr l e rm_Mach_run s m args below meth c H locs 0 0 Q (F0 m 20 ls [])) (kX0 : q.1 = 0 → ∀ (ls : Array Slot) (H : Heap) (locs : List Loc), lv_has ls 3 [(0, .ref (a 0)), (1, .int x1), (2, .int q.2.1)] → Wi (dC, dI) clA (wX a cI L q.2.2) s A H locs → W pr l e rm_Mach_run s m args below meth c H locs 0 0 Q (F0 m 97 ls [])) : W pr l e rm_Mach_run s m args below meth c H locs 0 0 Q (F0 m 58 ls []) := by
  have hx := C.1
  have hb := C.2.1
  unfold fMach_run_B20_J58 at h
  refine lv_aload_n hx hb d_Mach_run_58 rfl (lv_at hl 0 rfl) ?_
  refine gf_Mach_37 C hI d_Mach_run_59 ?_
  refine gf_Mach_121 C hI (v := σ.1 20) rfl d_Mach_run_62 ?_
  refine lv_if_eq (tgt := 73) hx hb d_Mach_run_65 (by decide) (fun hc => ?_) (fun hc => ?_)
  · replace h := of_pos hc h
    exact j_Mach_run_B20_J73 C h (lv_sub hl [0, 1, 2] rfl) hI kC kX0
  · replace h := of_neg hc h
    refine lv_aload_n hx hb d_Mach_run_68 rfl (lv_at hl 0 rfl) ?_
    refine lv_iconst (v := 3) hx hb d_Mach_run_69 (by decide) ?_
    refine pf_Mach_45 C hI (σ' := (upd σ.1 1 3, σ.2)) rfl d_Mach_run_70 (fun H locs hI => ?_)
    exact j_Mach_run_B20_J73 C h (lv_sub hl [0, 1, 2] rfl) hI kC kX0
set_option maxHeartbeats 4000000 in
set_option maxRecDepth 100000 in
theorem b_Mach_run_B20 {l : Launch} {dC : Nat → ClassId} {dI : Nat → Nat → Nat} {a : Nat → Nat} {cI : ClassId} {L : Nat} {tt : Nat → Nat} {pr : Program} {e : Env} {s : State} {m : MethodId} {args : Array Value} {below : List Frame} {meth : Method} {c : Code} {A : Nat → Prop} {ls : Array Slot} {H : Heap} {locs : List Loc} {x1 : Int32} {s0 : Int32 × St} {q : Nat × (Int32 × St)} {Q : State → Prop} (C : Cx (dC, dI) clA (tyX cI) (SXx tt) pr s m args meth c b_Mach_run 3 y_Mach_run.cls A) (h : fMach_run_B20 L x1 s0 = some q) (hl : lv_has ls 3 [(0, .ref (a 0)), (1, .int x1), (2, .int s0.1)]) (hI : Wi (dC, dI) clA (wX a cI L s0.2) s A H locs) (kC : q.1 = 1 → ∀ (ls : Array Slot) (H : Heap) (locs : List Loc), lv_has ls 3 [(0, .ref (a 0)), (1, .int x1), (2, .int q.2.1)] → Wi (dC, dI) clA (wX a cI L q.2.2) s A H locs → W pr l e rm_Mach_run s m args below meth c H locs 0 0 Q (F0 m 20 ls [])) (kX0 : q.1 = 0 → ∀ (ls : Array Slot) (H : Heap) (locs : List Loc), lv_has ls 3 [(0, .ref (a 0)), (1, .int x1), (2, .int q.2.1)] → Wi (dC, dI) clA (wX a cI L q.2.2) s A H locs → W pr l e rm_Mach_run s m args below meth c H locs 0 0 Q (F0 m 97 ls [])) : W pr l e rm_Mach_run s m args below meth c H locs 0 0 Q (F0 m 20 ls []) := by
  have hx := C.1
  have hb := C.2.1
  unfold fMach_run_B20 at h
  refine lv_iload_n hx hb d_Mach_run_20 rfl (lv_at hl 2 rfl) ?_
  refine lv_iload_n hx hb d_Mach_run_21 rfl (lv_at hl 1 rfl) ?_
  refine lv_icmp_ge (tgt := 97) hx hb d_Mach_run_22 (by decide) (fun hc => ?_) (fun hc => ?_)
  · replace h := of_pos hc h
    replace h := Option.some.inj h
    subst h
    exact kX0 rfl _ _ _ (lv_sub hl [0, 1, 2] rfl) hI
  · replace h := of_neg hc h
    refine lv_aload_n hx hb d_Mach_run_25 rfl (lv_at hl 0 rfl) ?_
    refine gf_Mach_45 C hI (v := s0.2.1 1) rfl d_Mach_run_26 ?_
    refine lv_if_ne (tgt := 97) hx hb d_Mach_run_29 (by decide) (fun hc => ?_) (fun hc => ?_)
    · replace h := of_neg hc h
      replace h := Option.some.inj h
      subst h
      exact kX0 rfl _ _ _ (lv_sub hl [0, 1, 2] rfl) hI
    · replace h := of_pos hc h
      refine lv_aload_n hx hb d_Mach_run_32 rfl (lv_at hl 0 rfl) ?_
      refine gf_Mach_37 C hI d_Mach_run_33 ?_
      refine lv_iconst (v := 0) hx hb d_Mach_run_36 (by decide) ?_
      refine pf_Mach_112 C hI (σ' := (upd s0.2.1 19 0, s0.2.2)) rfl d_Mach_run_37 (fun H locs hI => ?_)
      refine lv_aload_n hx hb d_Mach_run_40 rfl (lv_at hl 0 rfl) ?_
      refine gf_Mach_103 C hI (v := s0.2.1 3) rfl d_Mach_run_41 ?_
      refine lv_if_eq (tgt := 54) hx hb d_Mach_run_44 (by decide) (fun hc => ?_) (fun hc => ?_)
      · replace h := of_pos hc h
        refine lv_aload_n hx hb d_Mach_run_54 rfl (lv_at hl 0 rfl) ?_
        obtain ⟨p55, hp55, h⟩ := of_bind h
        refine rb_callV sxok C (c_Mach_perform hp55) cw_Mach_118 ⟨Nat.le_of_ble_eq_true rfl, Nat.le_of_ble_eq_true rfl⟩ ⟨rfl, rfl⟩ (q0 := 0) (ci := 0) rfl rfl hI ⟨Nat.zero_le _, Nat.zero_le _⟩ (As := []) rfl hl.1 (rest := []) (Nat.le_of_ble_eq_true rfl) rfl d_Mach_run_55 (fun H locs hI => ?_)
        exact j_Mach_run_B20_J58 C h (lv_sub hl [0, 1, 2] rfl) hI kC kX0
      · replace h := of_neg hc h
        refine lv_aload_n hx hb d_Mach_run_47 rfl (lv_at hl 0 rfl) ?_
        obtain ⟨p48, hp48, h⟩ := of_bind h
        refine rb_callV sxok C (c_Mach_passException hp48) cw_Mach_115 ⟨Nat.le_of_ble_eq_true rfl, Nat.le_of_ble_eq_true rfl⟩ ⟨rfl, rfl⟩ (q0 := 0) (ci := 0) rfl rfl hI ⟨Nat.zero_le _, Nat.zero_le _⟩ (As := []) rfl hl.1 (rest := []) (Nat.le_of_ble_eq_true rfl) rfl d_Mach_run_48 (fun H locs hI => ?_)
        refine lv_goto (tgt := 58) hx hb d_Mach_run_51 (by decide) ?_
        exact j_Mach_run_B20_J58 C h (lv_sub hl [0, 1, 2] rfl) hI kC kX0
set_option maxHeartbeats 4000000 in
set_option maxRecDepth 100000 in
theorem l_Mach_run_B20 {l : Launch} {dC : Nat → ClassId} {dI : Nat → Nat → Nat} {a : Nat → Nat} {cI : ClassId} {L : Nat} {tt : Nat → Nat} {pr : Program} {e : Env} {s : State} {m : MethodId} {args : Array Value} {below : List Frame} {meth : Method} {c : Code} {A : Nat → Prop} {x1 : Int32} {Q : State → Prop} (C : Cx (dC, dI) clA (tyX cI) (SXx tt) pr s m args meth c b_Mach_run 3 y_Mach_run.cls A) : ∀ (k : Nat) (s0 : Int32 × St) (q : Nat × (Int32 × St)) (ls : Array Slot) (H : Heap) (locs : List Loc), rbLoop (fMach_run_B20 L x1) k s0 = some q → lv_has ls 3 [(0, .ref (a 0)), (1, .int x1), (2, .int s0.1)] → Wi (dC, dI) clA (wX a cI L s0.2) s A H locs → (q.1 = 0 → ∀ (ls : Array Slot) (H : Heap) (locs : List Loc), lv_has ls 3 [(0, .ref (a 0)), (1, .int x1), (2, .int q.2.1)] → Wi (dC, dI) clA (wX a cI L q.2.2) s A H locs → W pr l e rm_Mach_run s m args below meth c H locs 0 0 Q (F0 m 97 ls [])) → W pr l e rm_Mach_run s m args below meth c H locs 0 0 Q (F0 m 20 ls []) := by
  intro k
  induction k with
  | zero => intro s0 q ls H locs h; cases h
  | succ k ih =>
    intro s0 q ls H locs h hl hI kX0
    obtain ⟨q1, hq1, h⟩ := rbLoop_succ h
    by_cases hc : q1.1 = 1
    · replace h := of_pos hc h
      refine b_Mach_run_B20 C hq1 hl hI (fun _ ls H locs hl hI => ih _ _ _ _ _ h hl hI kX0) (fun hz => absurd (hc.symm.trans hz) (by decide))
    · replace h := of_neg hc h
      cases h
      exact b_Mach_run_B20 C hq1 hl hI (fun hz => absurd hz hc) kX0
set_option maxHeartbeats 4000000 in
set_option maxRecDepth 100000 in
theorem c_Mach_run {l : Launch} {dC : Nat → ClassId} {dI : Nat → Nat → Nat} {a : Nat → Nat} {cI : ClassId} {L : Nat} {tt : Nat → Nat} {σ : St} {x1 : Int32} {q : Int32 × St} (h : fMach_run L σ x1 = some q) : CI l (dC, dI) clA (tyX cI) (SXx tt) (wX a cI L σ) (wX a cI L q.2) y_Mach_run b_Mach_run 3 (some .int) rm_Mach_run [.ref (a 0), .int x1] q.1 := by
  refine CI_of (by decide) (Nat.le_of_ble_eq_true rfl) ?_
  intro pr e s m below meth c A ls C hr hl hI
  have hx := C.1
  have hb := C.2.1
  have hl : lv_has ls 3 [(0, .ref (a 0)), (1, .int x1)] := hl
  unfold fMach_run at h
  refine lv_iload_n hx hb d_Mach_run_0 rfl (lv_at hl 1 rfl) ?_
  refine lv_if_lt (tgt := 11) hx hb d_Mach_run_1 (by decide) (fun hc => ?_) (fun hc => ?_)
  · replace h := of_pos hc h
    refine lv_iconst (v := (-1)) hx hb d_Mach_run_11 (by decide) ?_
    replace h := Option.some.inj h
    subst h
    exact rb_retI C hr hI d_Mach_run_12
  · replace h := of_neg hc h
    refine lv_iload_n hx hb d_Mach_run_4 rfl (lv_at hl 1 rfl) ?_
    refine lv_sipush (v := 200) hx hb d_Mach_run_5 (by decide) ?_
    refine lv_icmp_le (tgt := 13) hx hb d_Mach_run_8 (by decide) (fun hc => ?_) (fun hc => ?_)
    · replace h := of_pos hc h
      refine lv_aload_n hx hb d_Mach_run_13 rfl (lv_at hl 0 rfl) ?_
      refine lv_iconst (v := 0) hx hb d_Mach_run_14 (by decide) ?_
      refine pf_Mach_109 C hI (σ' := (upd σ.1 5 0, σ.2)) rfl d_Mach_run_15 (fun H locs hI => ?_)
      refine lv_iconst (v := 0) hx hb d_Mach_run_18 (by decide) ?_
      refine lv_istore_n (lv' := [(2, .int 0), (0, .ref (a 0)), (1, .int x1)]) hx hb d_Mach_run_19 rfl hl (by decide) rfl (fun ls hl => ?_)
      obtain ⟨q20, hq20, h⟩ := of_bind h
      refine l_Mach_run_B20 C _ _ _ _ _ _ hq20 (lv_sub hl [1, 2, 0] rfl) hI ?_
      intro _ ls H locs hl hI
      refine lv_iload_n hx hb d_Mach_run_97 rfl (lv_at hl 2 rfl) ?_
      replace h := Option.some.inj h
      subst h
      exact rb_retI C hr hI d_Mach_run_98
    · replace h := of_neg hc h
      refine lv_iconst (v := (-1)) hx hb d_Mach_run_11 (by decide) ?_
      replace h := Option.some.inj h
      subst h
      exact rb_retI C hr hI d_Mach_run_12
