theorem d_Room_countReachableCells_0 : decode b_Room_countReachableCells 0 = .ok (.iconst 0, 1) := by decide +kernel
theorem d_Room_countReachableCells_1 : decode b_Room_countReachableCells 1 = .ok (.istore_n 1, 1) := by decide +kernel
theorem d_Room_countReachableCells_2 : decode b_Room_countReachableCells 2 = .ok (.aload_n 0, 1) := by decide +kernel
theorem d_Room_countReachableCells_3 : decode b_Room_countReachableCells 3 = .ok (.aload_n 0, 1) := by decide +kernel
theorem d_Room_countReachableCells_4 : decode b_Room_countReachableCells 4 = .ok (.getfield 28, 3) := by decide +kernel
theorem d_Room_countReachableCells_7 : decode b_Room_countReachableCells 7 = .ok (.iconst 0, 1) := by decide +kernel
theorem d_Room_countReachableCells_8 : decode b_Room_countReachableCells 8 = .ok (.invokevirtual 91, 3) := by decide +kernel
theorem d_Room_countReachableCells_11 : decode b_Room_countReachableCells 11 = .ok (.istore_n 2, 1) := by decide +kernel
theorem d_Room_countReachableCells_12 : decode b_Room_countReachableCells 12 = .ok (.iconst 0, 1) := by decide +kernel
theorem d_Room_countReachableCells_13 : decode b_Room_countReachableCells 13 = .ok (.istore_n 3, 1) := by decide +kernel
theorem d_Room_countReachableCells_14 : decode b_Room_countReachableCells 14 = .ok (.iload_n 3, 1) := by decide +kernel
theorem d_Room_countReachableCells_15 : decode b_Room_countReachableCells 15 = .ok (.iload_n 2, 1) := by decide +kernel
theorem d_Room_countReachableCells_16 : decode b_Room_countReachableCells 16 = .ok (.if_icmp .ge 77, 3) := by decide +kernel
theorem d_Room_countReachableCells_19 : decode b_Room_countReachableCells 19 = .ok (.iload_n 3, 1) := by decide +kernel
theorem d_Room_countReachableCells_20 : decode b_Room_countReachableCells 20 = .ok (.aload_n 0, 1) := by decide +kernel
theorem d_Room_countReachableCells_21 : decode b_Room_countReachableCells 21 = .ok (.getfield 22, 3) := by decide +kernel
theorem d_Room_countReachableCells_24 : decode b_Room_countReachableCells 24 = .ok (.arraylength, 1) := by decide +kernel
theorem d_Room_countReachableCells_25 : decode b_Room_countReachableCells 25 = .ok (.if_icmp .ge 68, 3) := by decide +kernel
theorem d_Room_countReachableCells_28 : decode b_Room_countReachableCells 28 = .ok (.aload_n 0, 1) := by decide +kernel
theorem d_Room_countReachableCells_29 : decode b_Room_countReachableCells 29 = .ok (.getfield 22, 3) := by decide +kernel
theorem d_Room_countReachableCells_32 : decode b_Room_countReachableCells 32 = .ok (.iload_n 3, 1) := by decide +kernel
theorem d_Room_countReachableCells_33 : decode b_Room_countReachableCells 33 = .ok (.iaload, 1) := by decide +kernel
theorem d_Room_countReachableCells_34 : decode b_Room_countReachableCells 34 = .ok (.istore 4, 2) := by decide +kernel
theorem d_Room_countReachableCells_36 : decode b_Room_countReachableCells 36 = .ok (.aload_n 0, 1) := by decide +kernel
theorem d_Room_countReachableCells_37 : decode b_Room_countReachableCells 37 = .ok (.iload 4, 2) := by decide +kernel
theorem d_Room_countReachableCells_39 : decode b_Room_countReachableCells 39 = .ok (.invokevirtual 66, 3) := by decide +kernel
theorem d_Room_countReachableCells_42 : decode b_Room_countReachableCells 42 = .ok (.istore 5, 2) := by decide +kernel
theorem d_Room_countReachableCells_44 : decode b_Room_countReachableCells 44 = .ok (.iload_n 1, 1) := by decide +kernel
theorem d_Room_countReachableCells_45 : decode b_Room_countReachableCells 45 = .ok (.aload_n 0, 1) := by decide +kernel
theorem d_Room_countReachableCells_46 : decode b_Room_countReachableCells 46 = .ok (.getfield 18, 3) := by decide +kernel
theorem d_Room_countReachableCells_49 : decode b_Room_countReachableCells 49 = .ok (.iload 4, 2) := by decide +kernel
theorem d_Room_countReachableCells_51 : decode b_Room_countReachableCells 51 = .ok (.iaload, 1) := by decide +kernel
theorem d_Room_countReachableCells_52 : decode b_Room_countReachableCells 52 = .ok (.invokestatic 75, 3) := by decide +kernel
theorem d_Room_countReachableCells_55 : decode b_Room_countReachableCells 55 = .ok (.iadd, 1) := by decide +kernel
theorem d_Room_countReachableCells_56 : decode b_Room_countReachableCells 56 = .ok (.istore_n 1, 1) := by decide +kernel
theorem d_Room_countReachableCells_57 : decode b_Room_countReachableCells 57 = .ok (.iconst 0, 1) := by decide +kernel
theorem d_Room_countReachableCells_58 : decode b_Room_countReachableCells 58 = .ok (.istore 6, 2) := by decide +kernel
theorem d_Room_countReachableCells_60 : decode b_Room_countReachableCells 60 = .ok (.iload 6, 2) := by decide +kernel
theorem d_Room_countReachableCells_62 : decode b_Room_countReachableCells 62 = .ok (.iload 5, 2) := by decide +kernel
theorem d_Room_countReachableCells_64 : decode b_Room_countReachableCells 64 = .ok (.if_icmp .ge 23, 3) := by decide +kernel
theorem d_Room_countReachableCells_67 : decode b_Room_countReachableCells 67 = .ok (.aload_n 0, 1) := by decide +kernel
theorem d_Room_countReachableCells_68 : decode b_Room_countReachableCells 68 = .ok (.aload_n 0, 1) := by decide +kernel
theorem d_Room_countReachableCells_69 : decode b_Room_countReachableCells 69 = .ok (.iload 4, 2) := by decide +kernel
theorem d_Room_countReachableCells_71 : decode b_Room_countReachableCells 71 = .ok (.iload 6, 2) := by decide +kernel
theorem d_Room_countReachableCells_73 : decode b_Room_countReachableCells 73 = .ok (.invokevirtual 87, 3) := by decide +kernel
theorem d_Room_countReachableCells_76 : decode b_Room_countReachableCells 76 = .ok (.iload_n 2, 1) := by decide +kernel
theorem d_Room_countReachableCells_77 : decode b_Room_countReachableCells 77 = .ok (.invokevirtual 91, 3) := by decide +kernel
theorem d_Room_countReachableCells_80 : decode b_Room_countReachableCells 80 = .ok (.istore_n 2, 1) := by decide +kernel
theorem d_Room_countReachableCells_81 : decode b_Room_countReachableCells 81 = .ok (.iinc 6 1, 3) := by decide +kernel
theorem d_Room_countReachableCells_84 : decode b_Room_countReachableCells 84 = .ok (.goto (-24), 3) := by decide +kernel
theorem d_Room_countReachableCells_87 : decode b_Room_countReachableCells 87 = .ok (.iinc 3 1, 3) := by decide +kernel
theorem d_Room_countReachableCells_90 : decode b_Room_countReachableCells 90 = .ok (.goto (-76), 3) := by decide +kernel
theorem d_Room_countReachableCells_93 : decode b_Room_countReachableCells 93 = .ok (.iconst 0, 1) := by decide +kernel
theorem d_Room_countReachableCells_94 : decode b_Room_countReachableCells 94 = .ok (.istore_n 3, 1) := by decide +kernel
theorem d_Room_countReachableCells_95 : decode b_Room_countReachableCells 95 = .ok (.iload_n 3, 1) := by decide +kernel
theorem d_Room_countReachableCells_96 : decode b_Room_countReachableCells 96 = .ok (.iload_n 2, 1) := by decide +kernel
theorem d_Room_countReachableCells_97 : decode b_Room_countReachableCells 97 = .ok (.if_icmp .ge 21, 3) := by decide +kernel
theorem d_Room_countReachableCells_100 : decode b_Room_countReachableCells 100 = .ok (.aload_n 0, 1) := by decide +kernel
theorem d_Room_countReachableCells_101 : decode b_Room_countReachableCells 101 = .ok (.getfield 25, 3) := by decide +kernel
theorem d_Room_countReachableCells_104 : decode b_Room_countReachableCells 104 = .ok (.aload_n 0, 1) := by decide +kernel
theorem d_Room_countReachableCells_105 : decode b_Room_countReachableCells 105 = .ok (.getfield 22, 3) := by decide +kernel
theorem d_Room_countReachableCells_108 : decode b_Room_countReachableCells 108 = .ok (.iload_n 3, 1) := by decide +kernel
theorem d_Room_countReachableCells_109 : decode b_Room_countReachableCells 109 = .ok (.iaload, 1) := by decide +kernel
theorem d_Room_countReachableCells_110 : decode b_Room_countReachableCells 110 = .ok (.iconst 0, 1) := by decide +kernel
theorem d_Room_countReachableCells_111 : decode b_Room_countReachableCells 111 = .ok (.iastore, 1) := by decide +kernel
theorem d_Room_countReachableCells_112 : decode b_Room_countReachableCells 112 = .ok (.iinc 3 1, 3) := by decide +kernel
theorem d_Room_countReachableCells_115 : decode b_Room_countReachableCells 115 = .ok (.goto (-20), 3) := by decide +kernel
theorem d_Room_countReachableCells_118 : decode b_Room_countReachableCells 118 = .ok (.iload_n 1, 1) := by decide +kernel
theorem d_Room_countReachableCells_119 : decode b_Room_countReachableCells 119 = .ok (.ireturn, 1) := by decide +kernel
abbrev rm_Room_countReachableCells : Room := { frames := 2, cells := 0, slots := 0, locals := 44 }
set_option maxHeartbeats 4000000 in
set_option maxRecDepth 100000 in
theorem b_Room_countReachableCells_B60 {l : Launch} {dC : Nat → ClassId} {dI : Nat → Nat → Nat} {a : Nat → Nat} {cI : ClassId} {L : Nat} {tt : Nat → Nat} {pr : Program} {e : Env} {s : State} {m : MethodId} {args : Array Value} {below : List Frame} {meth : Method} {c : Code} {A : Nat → Prop} {ls : Array Slot} {H : Heap} {locs : List Loc} {x1 x3 x4 x5 : Int32} {s0 : Int32 × Int32 × St} {q : Nat × (Int32 × Int32 × St)} {Q : State → Prop} (C : Cx (dC, dI) clA (tyX cI) (SXx tt) pr s m args meth c b_Room_countReachableCells 7 y_Room_countReachableCells.cls A) (h : fRoom_countReachableCells_B60 L x1 x3 x4 x5 s0 = some q) (hl : lv_has ls 7 [(0, .ref (a 3)), (1, .int x1), (2, .int s0.1), (3, .int x3), (4, .int x4), (5, .int x5), (6, .int s0.2.1)]) (hI : Wi (dC, dI) clA (wX a cI L s0.2.2) s A H locs) (kC : q.1 = 1 → ∀ (ls : Array Slot) (H : Heap) (locs : List Loc), lv_has ls 7 [(0, .ref (a 3)), (1, .int x1), (2, .int q.2.1), (3, .int x3), (4, .int x4), (5, .int x5), (6, .int q.2.2.1)] → Wi (dC, dI) clA (wX a cI L q.2.2.2) s A H locs → W pr l e rm_Room_countReachableCells s m args below meth c H locs 0 0 Q (F0 m 60 ls [])) (kX0 : q.1 = 0 → ∀ (ls : Array Slot) (H : Heap) (locs : List Loc), lv_has ls 7 [(0, .ref (a 3)), (1, .int x1), (2, .int q.2.1), (3, .int x3), (4, .int x4), (5, .int x5), (6, .int q.2.2.1)] → Wi (dC, dI) clA (wX a cI L q.2.2.2) s A H locs → W pr l e rm_Room_countReachableCells s m args below meth c H locs 0 0 Q (F0 m 87 ls [])) : W pr l e rm_Room_countReachableCells s m args below meth c H locs 0 0 Q (F0 m 60 ls []) := by
  have hx := C.1
  have hb := C.2.1
  unfold fRoom_countReachableCells_B60 at h
  refine lv_iload hx hb d_Room_countReachableCells_60 (lv_at hl 6 rfl) ?_
  refine lv_iload hx hb d_Room_countReachableCells_62 (lv_at hl 5 rfl) ?_
  refine lv_icmp_ge (tgt := 87) hx hb d_Room_countReachableCells_64 (by decide) (fun hc => ?_) (fun hc => ?_)
  · replace h := of_pos hc h
    replace h := Option.some.inj h
    subst h
    exact kX0 rfl _ _ _ (lv_sub hl [0, 1, 2, 3, 4, 5, 6] rfl) hI
  · replace h := of_neg hc h
    refine lv_aload_n hx hb d_Room_countReachableCells_67 rfl (lv_at hl 0 rfl) ?_
    refine lv_aload_n hx hb d_Room_countReachableCells_68 rfl (lv_at hl 0 rfl) ?_
    refine lv_iload hx hb d_Room_countReachableCells_69 (lv_at hl 4 rfl) ?_
    refine lv_iload hx hb d_Room_countReachableCells_71 (lv_at hl 6 rfl) ?_
    obtain ⟨p73, hp73, h⟩ := of_bind h
    refine rb_callI sxok C (c_Room_peekRef hp73) cw_Room_87 ⟨Nat.le_of_ble_eq_true rfl, Nat.le_of_ble_eq_true rfl⟩ ⟨rfl, rfl⟩ (q0 := 3) (ci := 3) rfl rfl hI ⟨Nat.zero_le _, Nat.zero_le _⟩ (As := [.int x4, .int s0.2.1]) rfl hl.1 (rest := [.ref (a 3)]) (Nat.le_of_ble_eq_true rfl) rfl d_Room_countReachableCells_73 (fun H locs hI => ?_)
    refine lv_iload_n hx hb d_Room_countReachableCells_76 rfl (lv_at hl 2 rfl) ?_
    obtain ⟨p77, hp77, h⟩ := of_bind h
    refine rb_callI sxok C (c_Room_noteFound hp77) cw_Room_91 ⟨Nat.le_of_ble_eq_true rfl, Nat.le_of_ble_eq_true rfl⟩ ⟨rfl, rfl⟩ (q0 := 3) (ci := 3) rfl rfl hI ⟨Nat.zero_le _, Nat.zero_le _⟩ (As := [.int p73.1, .int s0.1]) rfl hl.1 (rest := []) (Nat.le_of_ble_eq_true rfl) rfl d_Room_countReachableCells_77 (fun H locs hI => ?_)
    refine lv_istore_n (lv' := [(2, .int p77.1), (0, .ref (a 3)), (1, .int x1), (3, .int x3), (4, .int x4), (5, .int x5), (6, .int s0.2.1)]) hx hb d_Room_countReachableCells_80 rfl hl (by decide) rfl (fun ls hl => ?_)
    refine lv_iinc (k := 6) (v := s0.2.1 + 1) (lv' := [(6, .int (s0.2.1 + 1)), (2, .int p77.1), (0, .ref (a 3)), (1, .int x1), (3, .int x3), (4, .int x4), (5, .int x5)]) hx hb d_Room_countReachableCells_81 hl rfl rfl (by decide) rfl (fun ls hl => ?_)
    refine lv_goto (tgt := 60) hx hb d_Room_countReachableCells_84 (by decide) ?_
    replace h := Option.some.inj h
    subst h
    exact kC rfl _ _ _ (lv_sub hl [2, 3, 1, 4, 5, 6, 0] rfl) hI
set_option maxHeartbeats 4000000 in
set_option maxRecDepth 100000 in
theorem l_Room_countReachableCells_B60 {l : Launch} {dC : Nat → ClassId} {dI : Nat → Nat → Nat} {a : Nat → Nat} {cI : ClassId} {L : Nat} {tt : Nat → Nat} {pr : Program} {e : Env} {s : State} {m : MethodId} {args : Array Value} {below : List Frame} {meth : Method} {c : Code} {A : Nat → Prop} {x1 x3 x4 x5 : Int32} {Q : State → Prop} (C : Cx (dC, dI) clA (tyX cI) (SXx tt) pr s m args meth c b_Room_countReachableCells 7 y_Room_countReachableCells.cls A) : ∀ (k : Nat) (s0 : Int32 × Int32 × St) (q : Nat × (Int32 × Int32 × St)) (ls : Array Slot) (H : Heap) (locs : List Loc), rbLoop (fRoom_countReachableCells_B60 L x1 x3 x4 x5) k s0 = some q → lv_has ls 7 [(0, .ref (a 3)), (1, .int x1), (2, .int s0.1), (3, .int x3), (4, .int x4), (5, .int x5), (6, .int s0.2.1)] → Wi (dC, dI) clA (wX a cI L s0.2.2) s A H locs → (q.1 = 0 → ∀ (ls : Array Slot) (H : Heap) (locs : List Loc), lv_has ls 7 [(0, .ref (a 3)), (1, .int x1), (2, .int q.2.1), (3, .int x3), (4, .int x4), (5, .int x5), (6, .int q.2.2.1)] → Wi (dC, dI) clA (wX a cI L q.2.2.2) s A H locs → W pr l e rm_Room_countReachableCells s m args below meth c H locs 0 0 Q (F0 m 87 ls [])) → W pr l e rm_Room_countReachableCells s m args below meth c H locs 0 0 Q (F0 m 60 ls []) := by
  intro k
  induction k with
  | zero => intro s0 q ls H locs h; cases h
  | succ k ih =>
    intro s0 q ls H locs h hl hI kX0
    obtain ⟨q1, hq1, h⟩ := rbLoop_succ h
    by_cases hc : q1.1 = 1
    · replace h := of_pos hc h
      refine b_Room_countReachableCells_B60 C hq1 hl hI (fun _ ls H locs hl hI => ih _ _ _ _ _ h hl hI kX0) (fun hz => absurd (hc.symm.trans hz) (by decide))
    · replace h := of_neg hc h
      cases h
      exact b_Room_countReachableCells_B60 C hq1 hl hI (fun hz => absurd hz hc) kX0
set_option maxHeartbeats 4000000 in
set_option maxRecDepth 100000 in
theorem b_Room_countReachableCells_B14 {l : Launch} {dC : Nat → ClassId} {dI : Nat → Nat → Nat} {a : Nat → Nat} {cI : ClassId} {L : Nat} {tt : Nat → Nat} {pr : Program} {e : Env} {s : State} {m : MethodId} {args : Array Value} {below : List Frame} {meth : Method} {c : Code} {A : Nat → Prop} {ls : Array Slot} {H : Heap} {locs : List Loc} {s0 : Int32 × Int32 × Int32 × St} {q : Nat × (Int32 × Int32 × Int32 × St)} {Q : State → Prop} (C : Cx (dC, dI) clA (tyX cI) (SXx tt) pr s m args meth c b_Room_countReachableCells 7 y_Room_countReachableCells.cls A) (h : fRoom_countReachableCells_B14 L s0 = some q) (hl : lv_has ls 7 [(0, .ref (a 3)), (1, .int s0.1), (2, .int s0.2.1), (3, .int s0.2.2.1)]) (hI : Wi (dC, dI) clA (wX a cI L s0.2.2.2) s A H locs) (kC : q.1 = 1 → ∀ (ls : Array Slot) (H : Heap) (locs : List Loc), lv_has ls 7 [(0, .ref (a 3)), (1, .int q.2.1), (2, .int q.2.2.1), (3, .int q.2.2.2.1)] → Wi (dC, dI) clA (wX a cI L q.2.2.2.2) s A H locs → W pr l e rm_Room_countReachableCells s m args below meth c H locs 0 0 Q (F0 m 14 ls [])) (kX0 : q.1 = 0 → ∀ (ls : Array Slot) (H : Heap) (locs : List Loc), lv_has ls 7 [(0, .ref (a 3)), (1, .int q.2.1), (2, .int q.2.2.1), (3, .int q.2.2.2.1)] → Wi (dC, dI) clA (wX a cI L q.2.2.2.2) s A H locs → W pr l e rm_Room_countReachableCells s m args below meth c H locs 0 0 Q (F0 m 93 ls [])) : W pr l e rm_Room_countReachableCells s m args below meth c H locs 0 0 Q (F0 m 14 ls []) := by
  have hx := C.1
  have hb := C.2.1
  unfold fRoom_countReachableCells_B14 at h
  refine lv_iload_n hx hb d_Room_countReachableCells_14 rfl (lv_at hl 3 rfl) ?_
  refine lv_iload_n hx hb d_Room_countReachableCells_15 rfl (lv_at hl 2 rfl) ?_
  refine lv_icmp_ge (tgt := 93) hx hb d_Room_countReachableCells_16 (by decide) (fun hc => ?_) (fun hc => ?_)
  · replace h := of_pos hc h
    replace h := Option.some.inj h
    subst h
    exact kX0 rfl _ _ _ (lv_sub hl [0, 1, 2, 3] rfl) hI
  · replace h := of_neg hc h
    refine lv_iload_n hx hb d_Room_countReachableCells_19 rfl (lv_at hl 3 rfl) ?_
    refine lv_aload_n hx hb d_Room_countReachableCells_20 rfl (lv_at hl 0 rfl) ?_
    refine gf_Room_22 C hI d_Room_countReachableCells_21 ?_
    refine ln_X_11 C hI d_Room_countReachableCells_24 ?_
    refine lv_icmp_ge (tgt := 93) hx hb d_Room_countReachableCells_25 (by decide) (fun hc => ?_) (fun hc => ?_)
    · replace h := of_pos hc h
      replace h := Option.some.inj h
      subst h
      exact kX0 rfl _ _ _ (lv_sub hl [0, 1, 2, 3] rfl) hI
    · replace h := of_neg hc h
      refine lv_aload_n hx hb d_Room_countReachableCells_28 rfl (lv_at hl 0 rfl) ?_
      refine gf_Room_22 C hI d_Room_countReachableCells_29 ?_
      refine lv_iload_n hx hb d_Room_countReachableCells_32 rfl (lv_at hl 3 rfl) ?_
      obtain ⟨hg33, h⟩ := of_guard h
      refine al_X_11 C hI (f := s0.2.2.2.2 11) rfl hg33 d_Room_countReachableCells_33 ?_
      refine lv_istore (lv' := [(4, .int ((s0.2.2.2.2 11) s0.2.2.1.toNatClampNeg)), (0, .ref (a 3)), (1, .int s0.1), (2, .int s0.2.1), (3, .int s0.2.2.1)]) hx hb d_Room_countReachableCells_34 hl (by decide) rfl (fun ls hl => ?_)
      refine lv_aload_n hx hb d_Room_countReachableCells_36 rfl (lv_at hl 1 rfl) ?_
      refine lv_iload hx hb d_Room_countReachableCells_37 (lv_at hl 0 rfl) ?_
      obtain ⟨p39, hp39, h⟩ := of_bind h
      refine rb_callI sxok C (c_Room_refsOf hp39) cw_Room_66 ⟨Nat.le_of_ble_eq_true rfl, Nat.le_of_ble_eq_true rfl⟩ ⟨rfl, rfl⟩ (q0 := 3) (ci := 3) rfl rfl hI ⟨Nat.zero_le _, Nat.zero_le _⟩ (As := [.int ((s0.2.2.2.2 11) s0.2.2.1.toNatClampNeg)]) rfl hl.1 (rest := []) (Nat.le_of_ble_eq_true rfl) rfl d_Room_countReachableCells_39 (fun H locs hI => ?_)
      refine lv_istore (lv' := [(5, .int p39.1), (4, .int ((s0.2.2.2.2 11) s0.2.2.1.toNatClampNeg)), (0, .ref (a 3)), (1, .int s0.1), (2, .int s0.2.1), (3, .int s0.2.2.1)]) hx hb d_Room_countReachableCells_42 hl (by decide) rfl (fun ls hl => ?_)
      refine lv_iload_n hx hb d_Room_countReachableCells_44 rfl (lv_at hl 3 rfl) ?_
      refine lv_aload_n hx hb d_Room_countReachableCells_45 rfl (lv_at hl 2 rfl) ?_
      refine gf_Room_18 C hI d_Room_countReachableCells_46 ?_
      refine lv_iload hx hb d_Room_countReachableCells_49 (lv_at hl 1 rfl) ?_
      obtain ⟨hg51, h⟩ := of_guard h
      refine al_X_10 C hI (f := p39.2.2 10) rfl hg51 d_Room_countReachableCells_51 ?_
      obtain ⟨p52, hp52, h⟩ := of_bind h
      refine rb_callSI sxok C (c_Room_sizeIn hp52) cw_Room_75 ⟨Nat.le_of_ble_eq_true rfl, Nat.le_of_ble_eq_true rfl⟩ ⟨rfl, rfl⟩ hI ⟨Nat.zero_le _, Nat.zero_le _⟩ (As := [.int ((p39.2.2 10) ((s0.2.2.2.2 11) s0.2.2.1.toNatClampNeg).toNatClampNeg)]) rfl hl.1 (rest := [.int s0.1]) (Nat.le_of_ble_eq_true rfl) rfl d_Room_countReachableCells_52 (fun H locs hI => ?_)
      refine lv_iadd hx hb d_Room_countReachableCells_55 ?_
      refine lv_istore_n (lv' := [(1, .int (s0.1 + p52.1)), (5, .int p39.1), (4, .int ((s0.2.2.2.2 11) s0.2.2.1.toNatClampNeg)), (0, .ref (a 3)), (2, .int s0.2.1), (3, .int s0.2.2.1)]) hx hb d_Room_countReachableCells_56 rfl hl (by decide) rfl (fun ls hl => ?_)
      refine lv_iconst (v := 0) hx hb d_Room_countReachableCells_57 (by decide) ?_
      refine lv_istore (lv' := [(6, .int 0), (1, .int (s0.1 + p52.1)), (5, .int p39.1), (4, .int ((s0.2.2.2.2 11) s0.2.2.1.toNatClampNeg)), (0, .ref (a 3)), (2, .int s0.2.1), (3, .int s0.2.2.1)]) hx hb d_Room_countReachableCells_58 hl (by decide) rfl (fun ls hl => ?_)
      obtain ⟨q60, hq60, h⟩ := of_bind h
      refine l_Room_countReachableCells_B60 C _ _ _ _ _ _ hq60 (lv_sub hl [4, 1, 5, 6, 3, 2, 0] rfl) hI ?_
      intro _ ls H locs hl hI
      refine lv_iinc (k := 3) (v := s0.2.2.1 + 1) (lv' := [(3, .int (s0.2.2.1 + 1)), (0, .ref (a 3)), (1, .int (s0.1 + p52.1)), (2, .int q60.2.1), (4, .int ((s0.2.2.2.2 11) s0.2.2.1.toNatClampNeg)), (5, .int p39.1), (6, .int q60.2.2.1)]) hx hb d_Room_countReachableCells_87 hl rfl rfl (by decide) rfl (fun ls hl => ?_)
      refine lv_goto (tgt := 14) hx hb d_Room_countReachableCells_90 (by decide) ?_
      replace h := Option.some.inj h
      subst h
      exact kC rfl _ _ _ (lv_sub hl [1, 2, 3, 0] rfl) hI
set_option maxHeartbeats 4000000 in
set_option maxRecDepth 100000 in
theorem l_Room_countReachableCells_B14 {l : Launch} {dC : Nat → ClassId} {dI : Nat → Nat → Nat} {a : Nat → Nat} {cI : ClassId} {L : Nat} {tt : Nat → Nat} {pr : Program} {e : Env} {s : State} {m : MethodId} {args : Array Value} {below : List Frame} {meth : Method} {c : Code} {A : Nat → Prop} {Q : State → Prop} (C : Cx (dC, dI) clA (tyX cI) (SXx tt) pr s m args meth c b_Room_countReachableCells 7 y_Room_countReachableCells.cls A) : ∀ (k : Nat) (s0 : Int32 × Int32 × Int32 × St) (q : Nat × (Int32 × Int32 × Int32 × St)) (ls : Array Slot) (H : Heap) (locs : List Loc), rbLoop (fRoom_countReachableCells_B14 L) k s0 = some q → lv_has ls 7 [(0, .ref (a 3)), (1, .int s0.1), (2, .int s0.2.1), (3, .int s0.2.2.1)] → Wi (dC, dI) clA (wX a cI L s0.2.2.2) s A H locs → (q.1 = 0 → ∀ (ls : Array Slot) (H : Heap) (locs : List Loc), lv_has ls 7 [(0, .ref (a 3)), (1, .int q.2.1), (2, .int q.2.2.1), (3, .int q.2.2.2.1)] → Wi (dC, dI) clA (wX a cI L q.2.2.2.2) s A H locs → W pr l e rm_Room_countReachableCells s m args below meth c H locs 0 0 Q (F0 m 93 ls [])) → W pr l e rm_Room_countReachableCells s m args below meth c H locs 0 0 Q (F0 m 14 ls []) := by
  intro k
  induction k with
  | zero => intro s0 q ls H locs h; cases h
  | succ k ih =>
    intro s0 q ls H locs h hl hI kX0
    obtain ⟨q1, hq1, h⟩ := rbLoop_succ h
    by_cases hc : q1.1 = 1
    · replace h := of_pos hc h
      refine b_Room_countReachableCells_B14 C hq1 hl hI (fun _ ls H locs hl hI => ih _ _ _ _ _ h hl hI kX0) (fun hz => absurd (hc.symm.trans hz) (by decide))
    · replace h := of_neg hc h
      cases h
      exact b_Room_countReachableCells_B14 C hq1 hl hI (fun hz => absurd hz hc) kX0
set_option maxHeartbeats 4000000 in
set_option maxRecDepth 100000 in
theorem b_Room_countReachableCells_B95 {l : Launch} {dC : Nat → ClassId} {dI : Nat → Nat → Nat} {a : Nat → Nat} {cI : ClassId} {L : Nat} {tt : Nat → Nat} {pr : Program} {e : Env} {s : State} {m : MethodId} {args : Array Value} {below : List Frame} {meth : Method} {c : Code} {A : Nat → Prop} {ls : Array Slot} {H : Heap} {locs : List Loc} {x1 x2 : Int32} {s0 : Int32 × St} {q : Nat × (Int32 × St)} {Q : State → Prop} (C : Cx (dC, dI) clA (tyX cI) (SXx tt) pr s m args meth c b_Room_countReachableCells 7 y_Room_countReachableCells.cls A) (h : fRoom_countReachableCells_B95 L x1 x2 s0 = some q) (hl : lv_has ls 7 [(0, .ref (a 3)), (1, .int x1), (2, .int x2), (3, .int s0.1)]) (hI : Wi (dC, dI) clA (wX a cI L s0.2) s A H locs) (kC : q.1 = 1 → ∀ (ls : Array Slot) (H : Heap) (locs : List Loc), lv_has ls 7 [(0, .ref (a 3)), (1, .int x1), (2, .int x2), (3, .int q.2.1)] → Wi (dC, dI) clA (wX a cI L q.2.2) s A H locs → W pr l e rm_Room_countReachableCells s m args below meth c H locs 0 0 Q (F0 m 95 ls [])) (kX0 : q.1 = 0 → ∀ (ls : Array Slot) (H : Heap) (locs : List Loc), lv_has ls 7 [(0, .ref (a 3)), (1, .int x1), (2, .int x2), (3, .int q.2.1)] → Wi (dC, dI) clA (wX a cI L q.2.2) s A H locs → W pr l e rm_Room_countReachableCells s m args below meth c H locs 0 0 Q (F0 m 118 ls [])) : W pr l e rm_Room_countReachableCells s m args below meth c H locs 0 0 Q (F0 m 95 ls []) := by
  have hx := C.1
  have hb := C.2.1
  unfold fRoom_countReachableCells_B95 at h
  refine lv_iload_n hx hb d_Room_countReachableCells_95 rfl (lv_at hl 3 rfl) ?_
  refine lv_iload_n hx hb d_Room_countReachableCells_96 rfl (lv_at hl 2 rfl) ?_
  refine lv_icmp_ge (tgt := 118) hx hb d_Room_countReachableCells_97 (by decide) (fun hc => ?_) (fun hc => ?_)
  · replace h := of_pos hc h
    replace h := Option.some.inj h
    subst h
    exact kX0 rfl _ _ _ (lv_sub hl [0, 1, 2, 3] rfl) hI
  · replace h := of_neg hc h
    refine lv_aload_n hx hb d_Room_countReachableCells_100 rfl (lv_at hl 0 rfl) ?_
    refine gf_Room_25 C hI d_Room_countReachableCells_101 ?_
    refine lv_aload_n hx hb d_Room_countReachableCells_104 rfl (lv_at hl 0 rfl) ?_
    refine gf_Room_22 C hI d_Room_countReachableCells_105 ?_
    refine lv_iload_n hx hb d_Room_countReachableCells_108 rfl (lv_at hl 3 rfl) ?_
    obtain ⟨hg109, h⟩ := of_guard h
    refine al_X_11 C hI (f := s0.2.2 11) rfl hg109 d_Room_countReachableCells_109 ?_
    refine lv_iconst (v := 0) hx hb d_Room_countReachableCells_110 (by decide) ?_
    obtain ⟨hg111, h⟩ := of_guard h
    refine as_X_12 C hI (σ' := (s0.2.1, va_up s0.2.2 12 (upd (s0.2.2 12) ((s0.2.2 11) s0.1.toNatClampNeg).toNatClampNeg 0))) rfl hg111 d_Room_countReachableCells_111 (fun H locs hI => ?_)
    refine lv_iinc (k := 3) (v := s0.1 + 1) (lv' := [(3, .int (s0.1 + 1)), (0, .ref (a 3)), (1, .int x1), (2, .int x2)]) hx hb d_Room_countReachableCells_112 hl rfl rfl (by decide) rfl (fun ls hl => ?_)
    refine lv_goto (tgt := 95) hx hb d_Room_countReachableCells_115 (by decide) ?_
    replace h := Option.some.inj h
    subst h
    exact kC rfl _ _ _ (lv_sub hl [1, 2, 3, 0] rfl) hI
set_option maxHeartbeats 4000000 in
set_option maxRecDepth 100000 in
theorem l_Room_countReachableCells_B95 {l : Launch} {dC : Nat → ClassId} {dI : Nat → Nat → Nat} {a : Nat → Nat} {cI : ClassId} {L : Nat} {tt : Nat → Nat} {pr : Program} {e : Env} {s : State} {m : MethodId} {args : Array Value} {below : List Frame} {meth : Method} {c : Code} {A : Nat → Prop} {x1 x2 : Int32} {Q : State → Prop} (C : Cx (dC, dI) clA (tyX cI) (SXx tt) pr s m args meth c b_Room_countReachableCells 7 y_Room_countReachableCells.cls A) : ∀ (k : Nat) (s0 : Int32 × St) (q : Nat × (Int32 × St)) (ls : Array Slot) (H : Heap) (locs : List Loc), rbLoop (fRoom_countReachableCells_B95 L x1 x2) k s0 = some q → lv_has ls 7 [(0, .ref (a 3)), (1, .int x1), (2, .int x2), (3, .int s0.1)] → Wi (dC, dI) clA (wX a cI L s0.2) s A H locs → (q.1 = 0 → ∀ (ls : Array Slot) (H : Heap) (locs : List Loc), lv_has ls 7 [(0, .ref (a 3)), (1, .int x1), (2, .int x2), (3, .int q.2.1)] → Wi (dC, dI) clA (wX a cI L q.2.2) s A H locs → W pr l e rm_Room_countReachableCells s m args below meth c H locs 0 0 Q (F0 m 118 ls [])) → W pr l e rm_Room_countReachableCells s m args below meth c H locs 0 0 Q (F0 m 95 ls []) := by
  intro k
  induction k with
  | zero => intro s0 q ls H locs h; cases h
  | succ k ih =>
    intro s0 q ls H locs h hl hI kX0
    obtain ⟨q1, hq1, h⟩ := rbLoop_succ h
    by_cases hc : q1.1 = 1
    · replace h := of_pos hc h
      refine b_Room_countReachableCells_B95 C hq1 hl hI (fun _ ls H locs hl hI => ih _ _ _ _ _ h hl hI kX0) (fun hz => absurd (hc.symm.trans hz) (by decide))
    · replace h := of_neg hc h
      cases h
      exact b_Room_countReachableCells_B95 C hq1 hl hI (fun hz => absurd hz hc) kX0
set_option maxHeartbeats 4000000 in
set_option maxRecDepth 100000 in
theorem j_Room_countReachableCells_J93 {l : Launch} {dC : Nat → ClassId} {dI : Nat → Nat → Nat} {a : Nat → Nat} {cI : ClassId} {L : Nat} {tt : Nat → Nat} {pr : Program} {e : Env} {s : State} {m : MethodId} {args : Array Value} {below : List Frame} {meth : Method} {c : Code} {A : Nat → Prop} {ls : Array Slot} {H : Heap} {locs : List Loc} {σ : St} {x1 x2 : Int32} {q : Int32 × St} (C : Cx (dC, dI) clA (tyX cI) (SXx tt) pr s m args meth c b_Room_countReachableCells 7 y_Room_countReachableCells.cls A) (hr : meth.sig.returnType = (some .int)) (h : fRoom_countReachableCells_J93 L σ x1 x2 = some q) (hl : lv_has ls 7 [(0, .ref (a 3)), (1, .int x1), (2, .int x2)]) (hI : Wi (dC, dI) clA (wX a cI L σ) s A H locs)  : W pr l e rm_Room_countReachableCells s m args below meth c H locs 0 0 (MQ below (rb_Qi (dC, dI) clA (tyX cI) (wX a cI L q.2) q.1 A) args s 0 0 A) (F0 m 93 ls []) := by
  have hx := C.1
  have hb := C.2.1
  unfold fRoom_countReachableCells_J93 at h
  refine lv_iconst (v := 0) hx hb d_Room_countReachableCells_93 (by decide) ?_
  refine lv_istore_n (lv' := [(3, .int 0), (0, .ref (a 3)), (1, .int x1), (2, .int x2)]) hx hb d_Room_countReachableCells_94 rfl hl (by decide) rfl (fun ls hl => ?_)
  obtain ⟨q95, hq95, h⟩ := of_bind h
  refine l_Room_countReachableCells_B95 C _ _ _ _ _ _ hq95 (lv_sub hl [1, 2, 3, 0] rfl) hI ?_
  intro _ ls H locs hl hI
  refine lv_iload_n hx hb d_Room_countReachableCells_118 rfl (lv_at hl 1 rfl) ?_
  replace h := Option.some.inj h
  subst h
  exact rb_retI C hr hI d_Room_countReachableCells_119
set_option maxHeartbeats 4000000 in
set_option maxRecDepth 100000 in
theorem c_Room_countReachableCells {l : Launch} {dC : Nat → ClassId} {dI : Nat → Nat → Nat} {a : Nat → Nat} {cI : ClassId} {L : Nat} {tt : Nat → Nat} {σ : St} {q : Int32 × St} (h : fRoom_countReachableCells L σ = some q) : CI l (dC, dI) clA (tyX cI) (SXx tt) (wX a cI L σ) (wX a cI L q.2) y_Room_countReachableCells b_Room_countReachableCells 7 (some .int) rm_Room_countReachableCells [.ref (a 3)] q.1 := by
  refine CI_of (by decide) (Nat.le_of_ble_eq_true rfl) ?_
  intro pr e s m below meth c A ls C hr hl hI
  have hx := C.1
  have hb := C.2.1
  have hl : lv_has ls 7 [(0, .ref (a 3))] := hl
  unfold fRoom_countReachableCells at h
  refine lv_iconst (v := 0) hx hb d_Room_countReachableCells_0 (by decide) ?_
  refine lv_istore_n (lv' := [(1, .int 0), (0, .ref (a 3))]) hx hb d_Room_countReachableCells_1 rfl hl (by decide) rfl (fun ls hl => ?_)
  refine lv_aload_n hx hb d_Room_countReachableCells_2 rfl (lv_at hl 1 rfl) ?_
  refine lv_aload_n hx hb d_Room_countReachableCells_3 rfl (lv_at hl 1 rfl) ?_
  refine gf_Room_28 C hI (v := σ.1 11) rfl d_Room_countReachableCells_4 ?_
  refine lv_iconst (v := 0) hx hb d_Room_countReachableCells_7 (by decide) ?_
  obtain ⟨p8, hp8, h⟩ := of_bind h
  refine rb_callI sxok C (c_Room_noteFound hp8) cw_Room_91 ⟨Nat.le_of_ble_eq_true rfl, Nat.le_of_ble_eq_true rfl⟩ ⟨rfl, rfl⟩ (q0 := 3) (ci := 3) rfl rfl hI ⟨Nat.zero_le _, Nat.zero_le _⟩ (As := [.int (σ.1 11), .int 0]) rfl hl.1 (rest := []) (Nat.le_of_ble_eq_true rfl) rfl d_Room_countReachableCells_8 (fun H locs hI => ?_)
  refine lv_istore_n (lv' := [(2, .int p8.1), (1, .int 0), (0, .ref (a 3))]) hx hb d_Room_countReachableCells_11 rfl hl (by decide) rfl (fun ls hl => ?_)
  refine lv_iconst (v := 0) hx hb d_Room_countReachableCells_12 (by decide) ?_
  refine lv_istore_n (lv' := [(3, .int 0), (2, .int p8.1), (1, .int 0), (0, .ref (a 3))]) hx hb d_Room_countReachableCells_13 rfl hl (by decide) rfl (fun ls hl => ?_)
  obtain ⟨q14, hq14, h⟩ := of_bind h
  refine l_Room_countReachableCells_B14 C _ _ _ _ _ _ hq14 (lv_sub hl [3, 2, 1, 0] rfl) hI ?_
  intro _ ls H locs hl hI
  exact j_Room_countReachableCells_J93 C hr h (lv_sub hl [0, 1, 2] rfl) hI
theorem d_Room_flip_0 : decode b_Room_flip 0 = .ok (.aload_n 0, 1) := by decide +kernel
theorem d_Room_flip_1 : decode b_Room_flip 1 = .ok (.aload_n 0, 1) := by decide +kernel
theorem d_Room_flip_2 : decode b_Room_flip 2 = .ok (.getfield 94, 3) := by decide +kernel
theorem d_Room_flip_5 : decode b_Room_flip 5 = .ok (.ifCond .ne 10, 3) := by decide +kernel
theorem d_Room_flip_8 : decode b_Room_flip 8 = .ok (.aload_n 0, 1) := by decide +kernel
theorem d_Room_flip_9 : decode b_Room_flip 9 = .ok (.getfield 9, 3) := by decide +kernel
theorem d_Room_flip_12 : decode b_Room_flip 12 = .ok (.goto 4, 3) := by decide +kernel
theorem d_Room_flip_15 : decode b_Room_flip 15 = .ok (.iconst 0, 1) := by decide +kernel
theorem d_Room_flip_16 : decode b_Room_flip 16 = .ok (.invokevirtual 35, 3) := by decide +kernel
theorem d_Room_flip_19 : decode b_Room_flip 19 = .ok (.aload_n 0, 1) := by decide +kernel
theorem d_Room_flip_20 : decode b_Room_flip 20 = .ok (.dup, 1) := by decide +kernel
theorem d_Room_flip_21 : decode b_Room_flip 21 = .ok (.getfield 39, 3) := by decide +kernel
theorem d_Room_flip_24 : decode b_Room_flip 24 = .ok (.iconst 1, 1) := by decide +kernel
theorem d_Room_flip_25 : decode b_Room_flip 25 = .ok (.iadd, 1) := by decide +kernel
theorem d_Room_flip_26 : decode b_Room_flip 26 = .ok (.putfield 39, 3) := by decide +kernel
theorem d_Room_flip_29 : decode b_Room_flip 29 = .ok (.aload_n 0, 1) := by decide +kernel
theorem d_Room_flip_30 : decode b_Room_flip 30 = .ok (.aload_n 0, 1) := by decide +kernel
theorem d_Room_flip_31 : decode b_Room_flip 31 = .ok (.aload_n 0, 1) := by decide +kernel
theorem d_Room_flip_32 : decode b_Room_flip 32 = .ok (.getfield 28, 3) := by decide +kernel
theorem d_Room_flip_35 : decode b_Room_flip 35 = .ok (.invokevirtual 106, 3) := by decide +kernel
theorem d_Room_flip_38 : decode b_Room_flip 38 = .ok (.putfield 28, 3) := by decide +kernel
theorem d_Room_flip_41 : decode b_Room_flip 41 = .ok (.return_, 1) := by decide +kernel
abbrev rm_Room_flip : Room := { frames := 2, cells := 0, slots := 0, locals := 87 }
set_option maxHeartbeats 4000000 in
set_option maxRecDepth 100000 in
theorem j_Room_flip_J16 {l : Launch} {dC : Nat → ClassId} {dI : Nat → Nat → Nat} {a : Nat → Nat} {cI : ClassId} {L : Nat} {tt : Nat → Nat} {pr : Program} {e : Env} {s : State} {m : MethodId} {args : Array Value} {below : List Frame} {meth : Method} {c : Code} {A : Nat → Prop} {ls : Array Slot} {H : Heap} {locs : List Loc} {σ : St} {s0 : Int32} {q : St} (C : Cx (dC, dI) clA (tyX cI) (SXx tt) pr s m args meth c b_Room_flip 1 y_Room_flip.cls A) (hr : meth.sig.returnType = none) (h : fRoom_flip_J16 L σ s0 = some q) (hl : lv_has ls 1 [(0, .ref (a 3))]) (hI : Wi (dC, dI) clA (wX a cI L σ) s A H locs)  : W pr l e rm_Room_flip s m args below meth c H locs 0 0 (MQ below (rb_Qv (dC, dI) clA (tyX cI) (wX a cI L q) A) args s 0 0 A) (F0 m 16 ls [.int s0, .ref (a 3)]) := by
  have hx := C.1
  have hb := C.2.1
  unfold fRoom_flip_J16 at h
  obtain ⟨p16, hp16, h⟩ := of_bind h
  refine rb_callV sxok C (c_Room_useSpace hp16) cw_Room_35 ⟨Nat.le_of_ble_eq_true rfl, Nat.le_of_ble_eq_true rfl⟩ ⟨rfl, rfl⟩ (q0 := 3) (ci := 3) rfl rfl hI ⟨Nat.zero_le _, Nat.zero_le _⟩ (As := [.int s0]) rfl hl.1 (rest := []) (Nat.le_of_ble_eq_true rfl) rfl d_Room_flip_16 (fun H locs hI => ?_)
  refine lv_aload_n hx hb d_Room_flip_19 rfl (lv_at hl 0 rfl) ?_
  refine lv_dup hx hb d_Room_flip_20 rfl ?_
  refine gf_Room_39 C hI (v := p16.1 18) rfl d_Room_flip_21 ?_
  refine lv_iconst (v := 1) hx hb d_Room_flip_24 (by decide) ?_
  refine lv_iadd hx hb d_Room_flip_25 ?_
  refine pf_Room_39 C hI (σ' := (upd p16.1 18 ((p16.1 18) + 1), p16.2)) rfl d_Room_flip_26 (fun H locs hI => ?_)
  refine lv_aload_n hx hb d_Room_flip_29 rfl (lv_at hl 0 rfl) ?_
  refine lv_aload_n hx hb d_Room_flip_30 rfl (lv_at hl 0 rfl) ?_
  refine lv_aload_n hx hb d_Room_flip_31 rfl (lv_at hl 0 rfl) ?_
  refine gf_Room_28 C hI (v := p16.1 11) rfl d_Room_flip_32 ?_
  obtain ⟨p35, hp35, h⟩ := of_bind h
  refine rb_callI sxok C (c_Room_moveOld hp35) cw_Room_106 ⟨Nat.le_of_ble_eq_true rfl, Nat.le_of_ble_eq_true rfl⟩ ⟨rfl, rfl⟩ (q0 := 3) (ci := 3) rfl rfl hI ⟨Nat.zero_le _, Nat.zero_le _⟩ (As := [.int (p16.1 11)]) rfl hl.1 (rest := [.ref (a 3)]) (Nat.le_of_ble_eq_true rfl) rfl d_Room_flip_35 (fun H locs hI => ?_)
  refine pf_Room_28 C hI (σ' := (upd p35.2.1 11 p35.1, p35.2.2)) rfl d_Room_flip_38 (fun H locs hI => ?_)
  replace h := Option.some.inj h
  subst h
  exact rb_retV C hr hI d_Room_flip_41
set_option maxHeartbeats 4000000 in
set_option maxRecDepth 100000 in
theorem c_Room_flip {l : Launch} {dC : Nat → ClassId} {dI : Nat → Nat → Nat} {a : Nat → Nat} {cI : ClassId} {L : Nat} {tt : Nat → Nat} {σ : St} {q : St} (h : fRoom_flip L σ = some q) : CV l (dC, dI) clA (tyX cI) (SXx tt) (wX a cI L σ) (wX a cI L q) y_Room_flip b_Room_flip 1 none rm_Room_flip [.ref (a 3)] := by
  refine CV_of (by decide) (Nat.le_of_ble_eq_true rfl) ?_
  intro pr e s m below meth c A ls C hr hl hI
  have hx := C.1
  have hb := C.2.1
  have hl : lv_has ls 1 [(0, .ref (a 3))] := hl
  unfold fRoom_flip at h
  refine lv_aload_n hx hb d_Room_flip_0 rfl (lv_at hl 0 rfl) ?_
  refine lv_aload_n hx hb d_Room_flip_1 rfl (lv_at hl 0 rfl) ?_
  refine gf_Room_94 C hI (v := σ.1 12) rfl d_Room_flip_2 ?_
  refine lv_if_ne (tgt := 15) hx hb d_Room_flip_5 (by decide) (fun hc => ?_) (fun hc => ?_)
  · replace h := of_neg hc h
    refine lv_iconst (v := 0) hx hb d_Room_flip_15 (by decide) ?_
    exact j_Room_flip_J16 C hr h (lv_sub hl [0] rfl) hI
  · replace h := of_pos hc h
    refine lv_aload_n hx hb d_Room_flip_8 rfl (lv_at hl 0 rfl) ?_
    refine gf_Room_9 C hI (v := σ.1 9) rfl d_Room_flip_9 ?_
    refine lv_goto (tgt := 16) hx hb d_Room_flip_12 (by decide) ?_
    exact j_Room_flip_J16 C hr h (lv_sub hl [0] rfl) hI
theorem d_Room_bring_0 : decode b_Room_bring 0 = .ok (.iload_n 1, 1) := by decide +kernel
theorem d_Room_bring_1 : decode b_Room_bring 1 = .ok (.aload_n 0, 1) := by decide +kernel
theorem d_Room_bring_2 : decode b_Room_bring 2 = .ok (.getfield 94, 3) := by decide +kernel
theorem d_Room_bring_5 : decode b_Room_bring 5 = .ok (.if_icmp .lt 20, 3) := by decide +kernel
theorem d_Room_bring_8 : decode b_Room_bring 8 = .ok (.iload_n 1, 1) := by decide +kernel
theorem d_Room_bring_9 : decode b_Room_bring 9 = .ok (.aload_n 0, 1) := by decide +kernel
theorem d_Room_bring_10 : decode b_Room_bring 10 = .ok (.getfield 94, 3) := by decide +kernel
theorem d_Room_bring_13 : decode b_Room_bring 13 = .ok (.aload_n 0, 1) := by decide +kernel
theorem d_Room_bring_14 : decode b_Room_bring 14 = .ok (.getfield 9, 3) := by decide +kernel
theorem d_Room_bring_17 : decode b_Room_bring 17 = .ok (.iadd, 1) := by decide +kernel
theorem d_Room_bring_18 : decode b_Room_bring 18 = .ok (.if_icmp .ge 7, 3) := by decide +kernel
theorem d_Room_bring_21 : decode b_Room_bring 21 = .ok (.iconst 1, 1) := by decide +kernel
theorem d_Room_bring_22 : decode b_Room_bring 22 = .ok (.goto 4, 3) := by decide +kernel
theorem d_Room_bring_25 : decode b_Room_bring 25 = .ok (.iconst 0, 1) := by decide +kernel
theorem d_Room_bring_26 : decode b_Room_bring 26 = .ok (.istore_n 2, 1) := by decide +kernel
theorem d_Room_bring_27 : decode b_Room_bring 27 = .ok (.iload_n 1, 1) := by decide +kernel
theorem d_Room_bring_28 : decode b_Room_bring 28 = .ok (.iconst (-1), 1) := by decide +kernel
theorem d_Room_bring_29 : decode b_Room_bring 29 = .ok (.if_icmp .eq 7, 3) := by decide +kernel
theorem d_Room_bring_32 : decode b_Room_bring 32 = .ok (.iload_n 2, 1) := by decide +kernel
theorem d_Room_bring_33 : decode b_Room_bring 33 = .ok (.ifCond .eq 5, 3) := by decide +kernel
theorem d_Room_bring_36 : decode b_Room_bring 36 = .ok (.iload_n 1, 1) := by decide +kernel
theorem d_Room_bring_37 : decode b_Room_bring 37 = .ok (.ireturn, 1) := by decide +kernel
theorem d_Room_bring_38 : decode b_Room_bring 38 = .ok (.aload_n 0, 1) := by decide +kernel
theorem d_Room_bring_39 : decode b_Room_bring 39 = .ok (.getfield 18, 3) := by decide +kernel
theorem d_Room_bring_42 : decode b_Room_bring 42 = .ok (.iload_n 1, 1) := by decide +kernel
theorem d_Room_bring_43 : decode b_Room_bring 43 = .ok (.iaload, 1) := by decide +kernel
theorem d_Room_bring_44 : decode b_Room_bring 44 = .ok (.ifCond .ge 11, 3) := by decide +kernel
theorem d_Room_bring_47 : decode b_Room_bring 47 = .ok (.aload_n 0, 1) := by decide +kernel
theorem d_Room_bring_48 : decode b_Room_bring 48 = .ok (.iload_n 1, 1) := by decide +kernel
theorem d_Room_bring_49 : decode b_Room_bring 49 = .ok (.invokevirtual 72, 3) := by decide +kernel
theorem d_Room_bring_52 : decode b_Room_bring 52 = .ok (.goto 8, 3) := by decide +kernel
theorem d_Room_bring_55 : decode b_Room_bring 55 = .ok (.aload_n 0, 1) := by decide +kernel
theorem d_Room_bring_56 : decode b_Room_bring 56 = .ok (.iload_n 1, 1) := by decide +kernel
theorem d_Room_bring_57 : decode b_Room_bring 57 = .ok (.invokevirtual 106, 3) := by decide +kernel
theorem d_Room_bring_60 : decode b_Room_bring 60 = .ok (.ireturn, 1) := by decide +kernel
abbrev rm_Room_bring : Room := { frames := 2, cells := 0, slots := 0, locals := 87 }
set_option maxHeartbeats 4000000 in
set_option maxRecDepth 100000 in
theorem j_Room_bring_J26 {l : Launch} {dC : Nat → ClassId} {dI : Nat → Nat → Nat} {a : Nat → Nat} {cI : ClassId} {L : Nat} {tt : Nat → Nat} {pr : Program} {e : Env} {s : State} {m : MethodId} {args : Array Value} {below : List Frame} {meth : Method} {c : Code} {A : Nat → Prop} {ls : Array Slot} {H : Heap} {locs : List Loc} {σ : St} {x1 s0 : Int32} {q : Int32 × St} (C : Cx (dC, dI) clA (tyX cI) (SXx tt) pr s m args meth c b_Room_bring 3 y_Room_bring.cls A) (hr : meth.sig.returnType = (some .int)) (h : fRoom_bring_J26 L σ x1 s0 = some q) (hl : lv_has ls 3 [(0, .ref (a 3)), (1, .int x1)]) (hI : Wi (dC, dI) clA (wX a cI L σ) s A H locs)  : W pr l e rm_Room_bring s m args below meth c H locs 0 0 (MQ below (rb_Qi (dC, dI) clA (tyX cI) (wX a cI L q.2) q.1 A) args s 0 0 A) (F0 m 26 ls [.int s0]) := by
  have hx := C.1
  have hb := C.2.1
  unfold fRoom_bring_J26 at h
  refine lv_istore_n (lv' := [(2, .int s0), (0, .ref (a 3)), (1, .int x1)]) hx hb d_Room_bring_26 rfl hl (by decide) rfl (fun ls hl => ?_)
  refine lv_iload_n hx hb d_Room_bring_27 rfl (lv_at hl 2 rfl) ?_
  refine lv_iconst (v := (-1)) hx hb d_Room_bring_28 (by decide) ?_
  refine lv_icmp_eq (tgt := 36) hx hb d_Room_bring_29 (by decide) (fun hc => ?_) (fun hc => ?_)
  · replace h := of_pos hc h
    refine lv_iload_n hx hb d_Room_bring_36 rfl (lv_at hl 2 rfl) ?_
    replace h := Option.some.inj h
    subst h
    exact rb_retI C hr hI d_Room_bring_37
  · replace h := of_neg hc h
    refine lv_iload_n hx hb d_Room_bring_32 rfl (lv_at hl 0 rfl) ?_
    refine lv_if_eq (tgt := 38) hx hb d_Room_bring_33 (by decide) (fun hc => ?_) (fun hc => ?_)
    · replace h := of_pos hc h
      refine lv_aload_n hx hb d_Room_bring_38 rfl (lv_at hl 1 rfl) ?_
      refine gf_Room_18 C hI d_Room_bring_39 ?_
      refine lv_iload_n hx hb d_Room_bring_42 rfl (lv_at hl 2 rfl) ?_
      obtain ⟨hg43, h⟩ := of_guard h
      refine al_X_10 C hI (f := σ.2 10) rfl hg43 d_Room_bring_43 ?_
      refine lv_if_ge (tgt := 55) hx hb d_Room_bring_44 (by decide) (fun hc => ?_) (fun hc => ?_)
      · replace h := of_pos hc h
        refine lv_aload_n hx hb d_Room_bring_55 rfl (lv_at hl 1 rfl) ?_
        refine lv_iload_n hx hb d_Room_bring_56 rfl (lv_at hl 2 rfl) ?_
        obtain ⟨p57, hp57, h⟩ := of_bind h
        refine rb_callI sxok C (c_Room_moveOld hp57) cw_Room_106 ⟨Nat.le_of_ble_eq_true rfl, Nat.le_of_ble_eq_true rfl⟩ ⟨rfl, rfl⟩ (q0 := 3) (ci := 3) rfl rfl hI ⟨Nat.zero_le _, Nat.zero_le _⟩ (As := [.int x1]) rfl hl.1 (rest := []) (Nat.le_of_ble_eq_true rfl) rfl d_Room_bring_57 (fun H locs hI => ?_)
        replace h := Option.some.inj h
        subst h
        exact rb_retI C hr hI d_Room_bring_60
      · replace h := of_neg hc h
        refine lv_aload_n hx hb d_Room_bring_47 rfl (lv_at hl 1 rfl) ?_
        refine lv_iload_n hx hb d_Room_bring_48 rfl (lv_at hl 2 rfl) ?_
        obtain ⟨p49, hp49, h⟩ := of_bind h
        refine rb_callI sxok C (c_Room_movedTo hp49) cw_Room_72 ⟨Nat.le_of_ble_eq_true rfl, Nat.le_of_ble_eq_true rfl⟩ ⟨rfl, rfl⟩ (q0 := 3) (ci := 3) rfl rfl hI ⟨Nat.zero_le _, Nat.zero_le _⟩ (As := [.int x1]) rfl hl.1 (rest := []) (Nat.le_of_ble_eq_true rfl) rfl d_Room_bring_49 (fun H locs hI => ?_)
        refine lv_goto (tgt := 60) hx hb d_Room_bring_52 (by decide) ?_
        replace h := Option.some.inj h
        subst h
        exact rb_retI C hr hI d_Room_bring_60
    · replace h := of_neg hc h
      refine lv_iload_n hx hb d_Room_bring_36 rfl (lv_at hl 2 rfl) ?_
      replace h := Option.some.inj h
      subst h
      exact rb_retI C hr hI d_Room_bring_37
set_option maxHeartbeats 4000000 in
set_option maxRecDepth 100000 in
theorem j_Room_bring_J25 {l : Launch} {dC : Nat → ClassId} {dI : Nat → Nat → Nat} {a : Nat → Nat} {cI : ClassId} {L : Nat} {tt : Nat → Nat} {pr : Program} {e : Env} {s : State} {m : MethodId} {args : Array Value} {below : List Frame} {meth : Method} {c : Code} {A : Nat → Prop} {ls : Array Slot} {H : Heap} {locs : List Loc} {σ : St} {x1 : Int32} {q : Int32 × St} (C : Cx (dC, dI) clA (tyX cI) (SXx tt) pr s m args meth c b_Room_bring 3 y_Room_bring.cls A) (hr : meth.sig.returnType = (some .int)) (h : fRoom_bring_J25 L σ x1 = some q) (hl : lv_has ls 3 [(0, .ref (a 3)), (1, .int x1)]) (hI : Wi (dC, dI) clA (wX a cI L σ) s A H locs)  : W pr l e rm_Room_bring s m args below meth c H locs 0 0 (MQ below (rb_Qi (dC, dI) clA (tyX cI) (wX a cI L q.2) q.1 A) args s 0 0 A) (F0 m 25 ls []) := by
  have hx := C.1
  have hb := C.2.1
  unfold fRoom_bring_J25 at h
  refine lv_iconst (v := 0) hx hb d_Room_bring_25 (by decide) ?_
  exact j_Room_bring_J26 C hr h (lv_sub hl [0, 1] rfl) hI
set_option maxHeartbeats 4000000 in
set_option maxRecDepth 100000 in
theorem c_Room_bring {l : Launch} {dC : Nat → ClassId} {dI : Nat → Nat → Nat} {a : Nat → Nat} {cI : ClassId} {L : Nat} {tt : Nat → Nat} {σ : St} {x1 : Int32} {q : Int32 × St} (h : fRoom_bring L σ x1 = some q) : CI l (dC, dI) clA (tyX cI) (SXx tt) (wX a cI L σ) (wX a cI L q.2) y_Room_bring b_Room_bring 3 (some .int) rm_Room_bring [.ref (a 3), .int x1] q.1 := by
  refine CI_of (by decide) (Nat.le_of_ble_eq_true rfl) ?_
  intro pr e s m below meth c A ls C hr hl hI
  have hx := C.1
  have hb := C.2.1
  have hl : lv_has ls 3 [(0, .ref (a 3)), (1, .int x1)] := hl
  unfold fRoom_bring at h
  refine lv_iload_n hx hb d_Room_bring_0 rfl (lv_at hl 1 rfl) ?_
  refine lv_aload_n hx hb d_Room_bring_1 rfl (lv_at hl 0 rfl) ?_
  refine gf_Room_94 C hI (v := σ.1 12) rfl d_Room_bring_2 ?_
  refine lv_icmp_lt (tgt := 25) hx hb d_Room_bring_5 (by decide) (fun hc => ?_) (fun hc => ?_)
  · replace h := of_pos hc h
    exact j_Room_bring_J25 C hr h (lv_sub hl [0, 1] rfl) hI
  · replace h := of_neg hc h
    refine lv_iload_n hx hb d_Room_bring_8 rfl (lv_at hl 1 rfl) ?_
    refine lv_aload_n hx hb d_Room_bring_9 rfl (lv_at hl 0 rfl) ?_
    refine gf_Room_94 C hI (v := σ.1 12) rfl d_Room_bring_10 ?_
    refine lv_aload_n hx hb d_Room_bring_13 rfl (lv_at hl 0 rfl) ?_
    refine gf_Room_9 C hI (v := σ.1 9) rfl d_Room_bring_14 ?_
    refine lv_iadd hx hb d_Room_bring_17 ?_
    refine lv_icmp_ge (tgt := 25) hx hb d_Room_bring_18 (by decide) (fun hc => ?_) (fun hc => ?_)
    · replace h := of_pos hc h
      exact j_Room_bring_J25 C hr h (lv_sub hl [0, 1] rfl) hI
    · replace h := of_neg hc h
      refine lv_iconst (v := 1) hx hb d_Room_bring_21 (by decide) ?_
      refine lv_goto (tgt := 26) hx hb d_Room_bring_22 (by decide) ?_
      exact j_Room_bring_J26 C hr h (lv_sub hl [0, 1] rfl) hI
theorem d_Room_readRef_0 : decode b_Room_readRef 0 = .ok (.iload_n 1, 1) := by decide +kernel
theorem d_Room_readRef_1 : decode b_Room_readRef 1 = .ok (.iconst 1, 1) := by decide +kernel
theorem d_Room_readRef_2 : decode b_Room_readRef 2 = .ok (.iadd, 1) := by decide +kernel
theorem d_Room_readRef_3 : decode b_Room_readRef 3 = .ok (.iload_n 2, 1) := by decide +kernel
theorem d_Room_readRef_4 : decode b_Room_readRef 4 = .ok (.iadd, 1) := by decide +kernel
theorem d_Room_readRef_5 : decode b_Room_readRef 5 = .ok (.istore_n 3, 1) := by decide +kernel
theorem d_Room_readRef_6 : decode b_Room_readRef 6 = .ok (.aload_n 0, 1) := by decide +kernel
theorem d_Room_readRef_7 : decode b_Room_readRef 7 = .ok (.getfield 18, 3) := by decide +kernel
theorem d_Room_readRef_10 : decode b_Room_readRef 10 = .ok (.iload_n 3, 1) := by decide +kernel
theorem d_Room_readRef_11 : decode b_Room_readRef 11 = .ok (.aload_n 0, 1) := by decide +kernel
theorem d_Room_readRef_12 : decode b_Room_readRef 12 = .ok (.aload_n 0, 1) := by decide +kernel
theorem d_Room_readRef_13 : decode b_Room_readRef 13 = .ok (.getfield 18, 3) := by decide +kernel
theorem d_Room_readRef_16 : decode b_Room_readRef 16 = .ok (.iload_n 3, 1) := by decide +kernel
theorem d_Room_readRef_17 : decode b_Room_readRef 17 = .ok (.iaload, 1) := by decide +kernel
theorem d_Room_readRef_18 : decode b_Room_readRef 18 = .ok (.invokevirtual 69, 3) := by decide +kernel
theorem d_Room_readRef_21 : decode b_Room_readRef 21 = .ok (.iastore, 1) := by decide +kernel
theorem d_Room_readRef_22 : decode b_Room_readRef 22 = .ok (.aload_n 0, 1) := by decide +kernel
theorem d_Room_readRef_23 : decode b_Room_readRef 23 = .ok (.getfield 18, 3) := by decide +kernel
theorem d_Room_readRef_26 : decode b_Room_readRef 26 = .ok (.iload_n 3, 1) := by decide +kernel
theorem d_Room_readRef_27 : decode b_Room_readRef 27 = .ok (.iaload, 1) := by decide +kernel
theorem d_Room_readRef_28 : decode b_Room_readRef 28 = .ok (.ireturn, 1) := by decide +kernel
abbrev rm_Room_readRef : Room := { frames := 3, cells := 0, slots := 0, locals := 109 }
set_option maxHeartbeats 4000000 in
set_option maxRecDepth 100000 in
theorem c_Room_readRef {l : Launch} {dC : Nat → ClassId} {dI : Nat → Nat → Nat} {a : Nat → Nat} {cI : ClassId} {L : Nat} {tt : Nat → Nat} {σ : St} {x1 x2 : Int32} {q : Int32 × St} (h : fRoom_readRef L σ x1 x2 = some q) : CI l (dC, dI) clA (tyX cI) (SXx tt) (wX a cI L σ) (wX a cI L q.2) y_Room_readRef b_Room_readRef 4 (some .int) rm_Room_readRef [.ref (a 3), .int x1, .int x2] q.1 := by
  refine CI_of (by decide) (Nat.le_of_ble_eq_true rfl) ?_
  intro pr e s m below meth c A ls C hr hl hI
  have hx := C.1
  have hb := C.2.1
  have hl : lv_has ls 4 [(0, .ref (a 3)), (1, .int x1), (2, .int x2)] := hl
  unfold fRoom_readRef at h
  refine lv_iload_n hx hb d_Room_readRef_0 rfl (lv_at hl 1 rfl) ?_
  refine lv_iconst (v := 1) hx hb d_Room_readRef_1 (by decide) ?_
  refine lv_iadd hx hb d_Room_readRef_2 ?_
  refine lv_iload_n hx hb d_Room_readRef_3 rfl (lv_at hl 2 rfl) ?_
  refine lv_iadd hx hb d_Room_readRef_4 ?_
  refine lv_istore_n (lv' := [(3, .int ((x1 + 1) + x2)), (0, .ref (a 3)), (1, .int x1), (2, .int x2)]) hx hb d_Room_readRef_5 rfl hl (by decide) rfl (fun ls hl => ?_)
  refine lv_aload_n hx hb d_Room_readRef_6 rfl (lv_at hl 1 rfl) ?_
  refine gf_Room_18 C hI d_Room_readRef_7 ?_
  refine lv_iload_n hx hb d_Room_readRef_10 rfl (lv_at hl 0 rfl) ?_
  refine lv_aload_n hx hb d_Room_readRef_11 rfl (lv_at hl 1 rfl) ?_
  refine lv_aload_n hx hb d_Room_readRef_12 rfl (lv_at hl 1 rfl) ?_
  refine gf_Room_18 C hI d_Room_readRef_13 ?_
  refine lv_iload_n hx hb d_Room_readRef_16 rfl (lv_at hl 0 rfl) ?_
  obtain ⟨hg17, h⟩ := of_guard h
  refine al_X_10 C hI (f := σ.2 10) rfl hg17 d_Room_readRef_17 ?_
  obtain ⟨p18, hp18, h⟩ := of_bind h
  refine rb_callI sxok C (c_Room_bring hp18) cw_Room_69 ⟨Nat.le_of_ble_eq_true rfl, Nat.le_of_ble_eq_true rfl⟩ ⟨rfl, rfl⟩ (q0 := 3) (ci := 3) rfl rfl hI ⟨Nat.zero_le _, Nat.zero_le _⟩ (As := [.int ((σ.2 10) ((x1 + 1) + x2).toNatClampNeg)]) rfl hl.1 (rest := [.int ((x1 + 1) + x2), .ref (a 14)]) (Nat.le_of_ble_eq_true rfl) rfl d_Room_readRef_18 (fun H locs hI => ?_)
  obtain ⟨hg21, h⟩ := of_guard h
  refine as_X_10 C hI (σ' := (p18.2.1, va_up p18.2.2 10 (upd (p18.2.2 10) ((x1 + 1) + x2).toNatClampNeg p18.1))) rfl hg21 d_Room_readRef_21 (fun H locs hI => ?_)
  refine lv_aload_n hx hb d_Room_readRef_22 rfl (lv_at hl 1 rfl) ?_
  refine gf_Room_18 C hI d_Room_readRef_23 ?_
  refine lv_iload_n hx hb d_Room_readRef_26 rfl (lv_at hl 0 rfl) ?_
  obtain ⟨hg27, h⟩ := of_guard h
  refine al_X_10 C hI (f := upd (p18.2.2 10) ((x1 + 1) + x2).toNatClampNeg p18.1) rfl hg27 d_Room_readRef_27 ?_
  replace h := Option.some.inj h
  subst h
  exact rb_retI C hr hI d_Room_readRef_28
theorem d_Room_scanCells_0 : decode b_Room_scanCells 0 = .ok (.iconst 0, 1) := by decide +kernel
theorem d_Room_scanCells_1 : decode b_Room_scanCells 1 = .ok (.istore_n 2, 1) := by decide +kernel
theorem d_Room_scanCells_2 : decode b_Room_scanCells 2 = .ok (.iload_n 2, 1) := by decide +kernel
theorem d_Room_scanCells_3 : decode b_Room_scanCells 3 = .ok (.iload_n 1, 1) := by decide +kernel
theorem d_Room_scanCells_4 : decode b_Room_scanCells 4 = .ok (.if_icmp .ge 119, 3) := by decide +kernel
theorem d_Room_scanCells_7 : decode b_Room_scanCells 7 = .ok (.aload_n 0, 1) := by decide +kernel
theorem d_Room_scanCells_8 : decode b_Room_scanCells 8 = .ok (.getfield 60, 3) := by decide +kernel
theorem d_Room_scanCells_11 : decode b_Room_scanCells 11 = .ok (.aload_n 0, 1) := by decide +kernel
theorem d_Room_scanCells_12 : decode b_Room_scanCells 12 = .ok (.getfield 57, 3) := by decide +kernel
theorem d_Room_scanCells_15 : decode b_Room_scanCells 15 = .ok (.if_icmp .ge 108, 3) := by decide +kernel
theorem d_Room_scanCells_18 : decode b_Room_scanCells 18 = .ok (.aload_n 0, 1) := by decide +kernel
theorem d_Room_scanCells_19 : decode b_Room_scanCells 19 = .ok (.getfield 42, 3) := by decide +kernel
theorem d_Room_scanCells_22 : decode b_Room_scanCells 22 = .ok (.ifCond .ne 101, 3) := by decide +kernel
theorem d_Room_scanCells_25 : decode b_Room_scanCells 25 = .ok (.aload_n 0, 1) := by decide +kernel
theorem d_Room_scanCells_26 : decode b_Room_scanCells 26 = .ok (.getfield 60, 3) := by decide +kernel
theorem d_Room_scanCells_29 : decode b_Room_scanCells 29 = .ok (.istore_n 3, 1) := by decide +kernel
theorem d_Room_scanCells_30 : decode b_Room_scanCells 30 = .ok (.aload_n 0, 1) := by decide +kernel
theorem d_Room_scanCells_31 : decode b_Room_scanCells 31 = .ok (.dup, 1) := by decide +kernel
theorem d_Room_scanCells_32 : decode b_Room_scanCells 32 = .ok (.getfield 60, 3) := by decide +kernel
theorem d_Room_scanCells_35 : decode b_Room_scanCells 35 = .ok (.iconst 1, 1) := by decide +kernel
theorem d_Room_scanCells_36 : decode b_Room_scanCells 36 = .ok (.iadd, 1) := by decide +kernel
theorem d_Room_scanCells_37 : decode b_Room_scanCells 37 = .ok (.putfield 60, 3) := by decide +kernel
theorem d_Room_scanCells_40 : decode b_Room_scanCells 40 = .ok (.aload_n 0, 1) := by decide +kernel
theorem d_Room_scanCells_41 : decode b_Room_scanCells 41 = .ok (.dup, 1) := by decide +kernel
theorem d_Room_scanCells_42 : decode b_Room_scanCells 42 = .ok (.getfield 103, 3) := by decide +kernel
theorem d_Room_scanCells_45 : decode b_Room_scanCells 45 = .ok (.iconst 1, 1) := by decide +kernel
theorem d_Room_scanCells_46 : decode b_Room_scanCells 46 = .ok (.iadd, 1) := by decide +kernel
theorem d_Room_scanCells_47 : decode b_Room_scanCells 47 = .ok (.putfield 103, 3) := by decide +kernel
theorem d_Room_scanCells_50 : decode b_Room_scanCells 50 = .ok (.iload_n 3, 1) := by decide +kernel
theorem d_Room_scanCells_51 : decode b_Room_scanCells 51 = .ok (.aload_n 0, 1) := by decide +kernel
theorem d_Room_scanCells_52 : decode b_Room_scanCells 52 = .ok (.getfield 97, 3) := by decide +kernel
theorem d_Room_scanCells_55 : decode b_Room_scanCells 55 = .ok (.if_icmp .ne 38, 3) := by decide +kernel
theorem d_Room_scanCells_58 : decode b_Room_scanCells 58 = .ok (.aload_n 0, 1) := by decide +kernel
theorem d_Room_scanCells_59 : decode b_Room_scanCells 59 = .ok (.iload_n 3, 1) := by decide +kernel
theorem d_Room_scanCells_60 : decode b_Room_scanCells 60 = .ok (.iconst 1, 1) := by decide +kernel
theorem d_Room_scanCells_61 : decode b_Room_scanCells 61 = .ok (.iadd, 1) := by decide +kernel
theorem d_Room_scanCells_62 : decode b_Room_scanCells 62 = .ok (.aload_n 0, 1) := by decide +kernel
theorem d_Room_scanCells_63 : decode b_Room_scanCells 63 = .ok (.getfield 18, 3) := by decide +kernel
theorem d_Room_scanCells_66 : decode b_Room_scanCells 66 = .ok (.iload_n 3, 1) := by decide +kernel
theorem d_Room_scanCells_67 : decode b_Room_scanCells 67 = .ok (.iaload, 1) := by decide +kernel
theorem d_Room_scanCells_68 : decode b_Room_scanCells 68 = .ok (.invokestatic 63, 3) := by decide +kernel
theorem d_Room_scanCells_71 : decode b_Room_scanCells 71 = .ok (.iadd, 1) := by decide +kernel
theorem d_Room_scanCells_72 : decode b_Room_scanCells 72 = .ok (.putfield 100, 3) := by decide +kernel
theorem d_Room_scanCells_75 : decode b_Room_scanCells 75 = .ok (.aload_n 0, 1) := by decide +kernel
theorem d_Room_scanCells_76 : decode b_Room_scanCells 76 = .ok (.iload_n 3, 1) := by decide +kernel
theorem d_Room_scanCells_77 : decode b_Room_scanCells 77 = .ok (.aload_n 0, 1) := by decide +kernel
theorem d_Room_scanCells_78 : decode b_Room_scanCells 78 = .ok (.getfield 18, 3) := by decide +kernel
theorem d_Room_scanCells_81 : decode b_Room_scanCells 81 = .ok (.iload_n 3, 1) := by decide +kernel
theorem d_Room_scanCells_82 : decode b_Room_scanCells 82 = .ok (.iaload, 1) := by decide +kernel
theorem d_Room_scanCells_83 : decode b_Room_scanCells 83 = .ok (.invokestatic 75, 3) := by decide +kernel
theorem d_Room_scanCells_86 : decode b_Room_scanCells 86 = .ok (.iadd, 1) := by decide +kernel
theorem d_Room_scanCells_87 : decode b_Room_scanCells 87 = .ok (.putfield 97, 3) := by decide +kernel
theorem d_Room_scanCells_90 : decode b_Room_scanCells 90 = .ok (.goto 27, 3) := by decide +kernel
theorem d_Room_scanCells_93 : decode b_Room_scanCells 93 = .ok (.iload_n 3, 1) := by decide +kernel
theorem d_Room_scanCells_94 : decode b_Room_scanCells 94 = .ok (.aload_n 0, 1) := by decide +kernel
theorem d_Room_scanCells_95 : decode b_Room_scanCells 95 = .ok (.getfield 100, 3) := by decide +kernel
theorem d_Room_scanCells_98 : decode b_Room_scanCells 98 = .ok (.if_icmp .ge 19, 3) := by decide +kernel
theorem d_Room_scanCells_101 : decode b_Room_scanCells 101 = .ok (.aload_n 0, 1) := by decide +kernel
theorem d_Room_scanCells_102 : decode b_Room_scanCells 102 = .ok (.getfield 18, 3) := by decide +kernel
theorem d_Room_scanCells_105 : decode b_Room_scanCells 105 = .ok (.iload_n 3, 1) := by decide +kernel
theorem d_Room_scanCells_106 : decode b_Room_scanCells 106 = .ok (.aload_n 0, 1) := by decide +kernel
theorem d_Room_scanCells_107 : decode b_Room_scanCells 107 = .ok (.aload_n 0, 1) := by decide +kernel
theorem d_Room_scanCells_108 : decode b_Room_scanCells 108 = .ok (.getfield 18, 3) := by decide +kernel
theorem d_Room_scanCells_111 : decode b_Room_scanCells 111 = .ok (.iload_n 3, 1) := by decide +kernel
theorem d_Room_scanCells_112 : decode b_Room_scanCells 112 = .ok (.iaload, 1) := by decide +kernel
theorem d_Room_scanCells_113 : decode b_Room_scanCells 113 = .ok (.invokevirtual 69, 3) := by decide +kernel
theorem d_Room_scanCells_116 : decode b_Room_scanCells 116 = .ok (.iastore, 1) := by decide +kernel
theorem d_Room_scanCells_117 : decode b_Room_scanCells 117 = .ok (.iinc 2 1, 3) := by decide +kernel
theorem d_Room_scanCells_120 : decode b_Room_scanCells 120 = .ok (.goto (-118), 3) := by decide +kernel
theorem d_Room_scanCells_123 : decode b_Room_scanCells 123 = .ok (.return_, 1) := by decide +kernel
abbrev rm_Room_scanCells : Room := { frames := 3, cells := 0, slots := 0, locals := 109 }
set_option maxHeartbeats 4000000 in
set_option maxRecDepth 100000 in
theorem j_Room_scanCells_B2_J117 {l : Launch} {dC : Nat → ClassId} {dI : Nat → Nat → Nat} {a : Nat → Nat} {cI : ClassId} {L : Nat} {tt : Nat → Nat} {pr : Program} {e : Env} {s : State} {m : MethodId} {args : Array Value} {below : List Frame} {meth : Method} {c : Code} {A : Nat → Prop} {ls : Array Slot} {H : Heap} {locs : List Loc} {σ : St} {x1 x2 : Int32} {q : Nat × (Int32 × St)} {Q : State → Prop} (C : Cx (dC, dI) clA (tyX cI) (SXx tt) pr s m args meth c b_Room_scanCells 4 y_Room_scanCells.cls A) (h : fRoom_scanCells_B2_J117 L σ x1 x2 = some q) (hl : lv_has ls 4 [(0, .ref (a 3)), (1, .int x1), (2, .int x2)]) (hI : Wi (dC, dI) clA (wX a cI L σ) s A H locs) (kC : q.1 = 1 → ∀ (ls : Array Slot) (H : Heap) (locs : List Loc), lv_has ls 4 [(0, .ref (a 3)), (1, .int x1), (2, .int q.2.1)] → Wi (dC, dI) clA (wX a cI L q.2.2) s A H locs → W pr l e rm_Room_scanCells s m args below meth c H locs 0 0 Q (F0 m 2 ls [])) (kX0 : q.1 = 0 → ∀ (ls : Array Slot) (H : Heap) (locs : List Loc), lv_has ls 4 [(0, .ref (a 3)), (1, .int x1), (2, .int q.2.1)] → Wi (dC, dI) clA (wX a cI L q.2.2) s A H locs → W pr l e rm_Room_scanCells s m args below meth c H locs 0 0 Q (F0 m 123 ls [])) : W pr l e rm_Room_scanCells s m args below meth c H locs 0 0 Q (F0 m 117 ls []) := by
  have hx := C.1
  have hb := C.2.1
  unfold fRoom_scanCells_B2_J117 at h
  refine lv_iinc (k := 2) (v := x2 + 1) (lv' := [(2, .int (x2 + 1)), (0, .ref (a 3)), (1, .int x1)]) hx hb d_Room_scanCells_117 hl rfl rfl (by decide) rfl (fun ls hl => ?_)
  refine lv_goto (tgt := 2) hx hb d_Room_scanCells_120 (by decide) ?_
  replace h := Option.some.inj h
  subst h
  exact kC rfl _ _ _ (lv_sub hl [1, 2, 0] rfl) hI
set_option maxHeartbeats 4000000 in
set_option maxRecDepth 100000 in
theorem b_Room_scanCells_B2 {l : Launch} {dC : Nat → ClassId} {dI : Nat → Nat → Nat} {a : Nat → Nat} {cI : ClassId} {L : Nat} {tt : Nat → Nat} {pr : Program} {e : Env} {s : State} {m : MethodId} {args : Array Value} {below : List Frame} {meth : Method} {c : Code} {A : Nat → Prop} {ls : Array Slot} {H : Heap} {locs : List Loc} {x1 : Int32} {s0 : Int32 × St} {q : Nat × (Int32 × St)} {Q : State → Prop} (C : Cx (dC, dI) clA (tyX cI) (SXx tt) pr s m args meth c b_Room_scanCells 4 y_Room_scanCells.cls A) (h : fRoom_scanCells_B2 L x1 s0 = some q) (hl : lv_has ls 4 [(0, .ref (a 3)), (1, .int x1), (2, .int s0.1)]) (hI : Wi (dC, dI) clA (wX a cI L s0.2) s A H locs) (kC : q.1 = 1 → ∀ (ls : Array Slot) (H : Heap) (locs : List Loc), lv_has ls 4 [(0, .ref (a 3)), (1, .int x1), (2, .int q.2.1)] → Wi (dC, dI) clA (wX a cI L q.2.2) s A H locs → W pr l e rm_Room_scanCells s m args below meth c H locs 0 0 Q (F0 m 2 ls [])) (kX0 : q.1 = 0 → ∀ (ls : Array Slot) (H : Heap) (locs : List Loc), lv_has ls 4 [(0, .ref (a 3)), (1, .int x1), (2, .int q.2.1)] → Wi (dC, dI) clA (wX a cI L q.2.2) s A H locs → W pr l e rm_Room_scanCells s m args below meth c H locs 0 0 Q (F0 m 123 ls [])) : W pr l e rm_Room_scanCells s m args below meth c H locs 0 0 Q (F0 m 2 ls []) := by
  have hx := C.1
  have hb := C.2.1
  unfold fRoom_scanCells_B2 at h
  refine lv_iload_n hx hb d_Room_scanCells_2 rfl (lv_at hl 2 rfl) ?_
  refine lv_iload_n hx hb d_Room_scanCells_3 rfl (lv_at hl 1 rfl) ?_
  refine lv_icmp_ge (tgt := 123) hx hb d_Room_scanCells_4 (by decide) (fun hc => ?_) (fun hc => ?_)
  · replace h := of_pos hc h
    replace h := Option.some.inj h
    subst h
    exact kX0 rfl _ _ _ (lv_sub hl [0, 1, 2] rfl) hI
  · replace h := of_neg hc h
    refine lv_aload_n hx hb d_Room_scanCells_7 rfl (lv_at hl 0 rfl) ?_
    refine gf_Room_60 C hI (v := s0.2.1 14) rfl d_Room_scanCells_8 ?_
    refine lv_aload_n hx hb d_Room_scanCells_11 rfl (lv_at hl 0 rfl) ?_
    refine gf_Room_57 C hI (v := s0.2.1 13) rfl d_Room_scanCells_12 ?_
    refine lv_icmp_ge (tgt := 123) hx hb d_Room_scanCells_15 (by decide) (fun hc => ?_) (fun hc => ?_)
    · replace h := of_pos hc h
      replace h := Option.some.inj h
      subst h
      exact kX0 rfl _ _ _ (lv_sub hl [0, 1, 2] rfl) hI
    · replace h := of_neg hc h
      refine lv_aload_n hx hb d_Room_scanCells_18 rfl (lv_at hl 0 rfl) ?_
      refine gf_Room_42 C hI (v := s0.2.1 20) rfl d_Room_scanCells_19 ?_
      refine lv_if_ne (tgt := 123) hx hb d_Room_scanCells_22 (by decide) (fun hc => ?_) (fun hc => ?_)
      · replace h := of_neg hc h
        replace h := Option.some.inj h
        subst h
        exact kX0 rfl _ _ _ (lv_sub hl [0, 1, 2] rfl) hI
      · replace h := of_pos hc h
        refine lv_aload_n hx hb d_Room_scanCells_25 rfl (lv_at hl 0 rfl) ?_
        refine gf_Room_60 C hI (v := s0.2.1 14) rfl d_Room_scanCells_26 ?_
        refine lv_istore_n (lv' := [(3, .int (s0.2.1 14)), (0, .ref (a 3)), (1, .int x1), (2, .int s0.1)]) hx hb d_Room_scanCells_29 rfl hl (by decide) rfl (fun ls hl => ?_)
        refine lv_aload_n hx hb d_Room_scanCells_30 rfl (lv_at hl 1 rfl) ?_
        refine lv_dup hx hb d_Room_scanCells_31 rfl ?_
        refine gf_Room_60 C hI (v := s0.2.1 14) rfl d_Room_scanCells_32 ?_
        refine lv_iconst (v := 1) hx hb d_Room_scanCells_35 (by decide) ?_
        refine lv_iadd hx hb d_Room_scanCells_36 ?_
        refine pf_Room_60 C hI (σ' := (upd s0.2.1 14 ((s0.2.1 14) + 1), s0.2.2)) rfl d_Room_scanCells_37 (fun H locs hI => ?_)
        refine lv_aload_n hx hb d_Room_scanCells_40 rfl (lv_at hl 1 rfl) ?_
        refine lv_dup hx hb d_Room_scanCells_41 rfl ?_
        refine gf_Room_103 C hI (v := s0.2.1 19) rfl d_Room_scanCells_42 ?_
        refine lv_iconst (v := 1) hx hb d_Room_scanCells_45 (by decide) ?_
        refine lv_iadd hx hb d_Room_scanCells_46 ?_
        refine pf_Room_103 C hI (σ' := (upd (upd s0.2.1 14 ((s0.2.1 14) + 1)) 19 ((s0.2.1 19) + 1), s0.2.2)) rfl d_Room_scanCells_47 (fun H locs hI => ?_)
        refine lv_iload_n hx hb d_Room_scanCells_50 rfl (lv_at hl 0 rfl) ?_
        refine lv_aload_n hx hb d_Room_scanCells_51 rfl (lv_at hl 1 rfl) ?_
        refine gf_Room_97 C hI (v := s0.2.1 15) rfl d_Room_scanCells_52 ?_
        refine lv_icmp_ne (tgt := 93) hx hb d_Room_scanCells_55 (by decide) (fun hc => ?_) (fun hc => ?_)
        · replace h := of_neg hc h
          refine lv_iload_n hx hb d_Room_scanCells_93 rfl (lv_at hl 0 rfl) ?_
          refine lv_aload_n hx hb d_Room_scanCells_94 rfl (lv_at hl 1 rfl) ?_
          refine gf_Room_100 C hI (v := s0.2.1 16) rfl d_Room_scanCells_95 ?_
          refine lv_icmp_ge (tgt := 117) hx hb d_Room_scanCells_98 (by decide) (fun hc => ?_) (fun hc => ?_)
          · replace h := of_pos hc h
            exact j_Room_scanCells_B2_J117 C h (lv_sub hl [1, 2, 3] rfl) hI kC kX0
          · replace h := of_neg hc h
            refine lv_aload_n hx hb d_Room_scanCells_101 rfl (lv_at hl 1 rfl) ?_
            refine gf_Room_18 C hI d_Room_scanCells_102 ?_
            refine lv_iload_n hx hb d_Room_scanCells_105 rfl (lv_at hl 0 rfl) ?_
            refine lv_aload_n hx hb d_Room_scanCells_106 rfl (lv_at hl 1 rfl) ?_
            refine lv_aload_n hx hb d_Room_scanCells_107 rfl (lv_at hl 1 rfl) ?_
            refine gf_Room_18 C hI d_Room_scanCells_108 ?_
            refine lv_iload_n hx hb d_Room_scanCells_111 rfl (lv_at hl 0 rfl) ?_
            obtain ⟨hg112, h⟩ := of_guard h
            refine al_X_10 C hI (f := s0.2.2 10) rfl hg112 d_Room_scanCells_112 ?_
            obtain ⟨p113, hp113, h⟩ := of_bind h
            refine rb_callI sxok C (c_Room_bring hp113) cw_Room_69 ⟨Nat.le_of_ble_eq_true rfl, Nat.le_of_ble_eq_true rfl⟩ ⟨rfl, rfl⟩ (q0 := 3) (ci := 3) rfl rfl hI ⟨Nat.zero_le _, Nat.zero_le _⟩ (As := [.int ((s0.2.2 10) (s0.2.1 14).toNatClampNeg)]) rfl hl.1 (rest := [.int (s0.2.1 14), .ref (a 14)]) (Nat.le_of_ble_eq_true rfl) rfl d_Room_scanCells_113 (fun H locs hI => ?_)
            obtain ⟨hg116, h⟩ := of_guard h
            refine as_X_10 C hI (σ' := (p113.2.1, va_up p113.2.2 10 (upd (p113.2.2 10) (s0.2.1 14).toNatClampNeg p113.1))) rfl hg116 d_Room_scanCells_116 (fun H locs hI => ?_)
            exact j_Room_scanCells_B2_J117 C h (lv_sub hl [1, 2, 3] rfl) hI kC kX0
        · replace h := of_pos hc h
          refine lv_aload_n hx hb d_Room_scanCells_58 rfl (lv_at hl 1 rfl) ?_
          refine lv_iload_n hx hb d_Room_scanCells_59 rfl (lv_at hl 0 rfl) ?_
          refine lv_iconst (v := 1) hx hb d_Room_scanCells_60 (by decide) ?_
          refine lv_iadd hx hb d_Room_scanCells_61 ?_
          refine lv_aload_n hx hb d_Room_scanCells_62 rfl (lv_at hl 1 rfl) ?_
          refine gf_Room_18 C hI d_Room_scanCells_63 ?_
          refine lv_iload_n hx hb d_Room_scanCells_66 rfl (lv_at hl 0 rfl) ?_
          obtain ⟨hg67, h⟩ := of_guard h
          refine al_X_10 C hI (f := s0.2.2 10) rfl hg67 d_Room_scanCells_67 ?_
          obtain ⟨p68, hp68, h⟩ := of_bind h
          refine rb_callSI sxok C (c_Room_refsIn hp68) cw_Room_63 ⟨Nat.le_of_ble_eq_true rfl, Nat.le_of_ble_eq_true rfl⟩ ⟨rfl, rfl⟩ hI ⟨Nat.zero_le _, Nat.zero_le _⟩ (As := [.int ((s0.2.2 10) (s0.2.1 14).toNatClampNeg)]) rfl hl.1 (rest := [.int ((s0.2.1 14) + 1), .ref (a 3)]) (Nat.le_of_ble_eq_true rfl) rfl d_Room_scanCells_68 (fun H locs hI => ?_)
          refine lv_iadd hx hb d_Room_scanCells_71 ?_
          refine pf_Room_100 C hI (σ' := (upd p68.2.1 16 (((s0.2.1 14) + 1) + p68.1), p68.2.2)) rfl d_Room_scanCells_72 (fun H locs hI => ?_)
          refine lv_aload_n hx hb d_Room_scanCells_75 rfl (lv_at hl 1 rfl) ?_
          refine lv_iload_n hx hb d_Room_scanCells_76 rfl (lv_at hl 0 rfl) ?_
          refine lv_aload_n hx hb d_Room_scanCells_77 rfl (lv_at hl 1 rfl) ?_
          refine gf_Room_18 C hI d_Room_scanCells_78 ?_
          refine lv_iload_n hx hb d_Room_scanCells_81 rfl (lv_at hl 0 rfl) ?_
          obtain ⟨hg82, h⟩ := of_guard h
          refine al_X_10 C hI (f := p68.2.2 10) rfl hg82 d_Room_scanCells_82 ?_
          obtain ⟨p83, hp83, h⟩ := of_bind h
          refine rb_callSI sxok C (c_Room_sizeIn hp83) cw_Room_75 ⟨Nat.le_of_ble_eq_true rfl, Nat.le_of_ble_eq_true rfl⟩ ⟨rfl, rfl⟩ hI ⟨Nat.zero_le _, Nat.zero_le _⟩ (As := [.int ((p68.2.2 10) (s0.2.1 14).toNatClampNeg)]) rfl hl.1 (rest := [.int (s0.2.1 14), .ref (a 3)]) (Nat.le_of_ble_eq_true rfl) rfl d_Room_scanCells_83 (fun H locs hI => ?_)
          refine lv_iadd hx hb d_Room_scanCells_86 ?_
          refine pf_Room_97 C hI (σ' := (upd p83.2.1 15 ((s0.2.1 14) + p83.1), p83.2.2)) rfl d_Room_scanCells_87 (fun H locs hI => ?_)
          refine lv_goto (tgt := 117) hx hb d_Room_scanCells_90 (by decide) ?_
          exact j_Room_scanCells_B2_J117 C h (lv_sub hl [1, 2, 3] rfl) hI kC kX0
set_option maxHeartbeats 4000000 in
set_option maxRecDepth 100000 in
theorem l_Room_scanCells_B2 {l : Launch} {dC : Nat → ClassId} {dI : Nat → Nat → Nat} {a : Nat → Nat} {cI : ClassId} {L : Nat} {tt : Nat → Nat} {pr : Program} {e : Env} {s : State} {m : MethodId} {args : Array Value} {below : List Frame} {meth : Method} {c : Code} {A : Nat → Prop} {x1 : Int32} {Q : State → Prop} (C : Cx (dC, dI) clA (tyX cI) (SXx tt) pr s m args meth c b_Room_scanCells 4 y_Room_scanCells.cls A) : ∀ (k : Nat) (s0 : Int32 × St) (q : Nat × (Int32 × St)) (ls : Array Slot) (H : Heap) (locs : List Loc), rbLoop (fRoom_scanCells_B2 L x1) k s0 = some q → lv_has ls 4 [(0, .ref (a 3)), (1, .int x1), (2, .int s0.1)] → Wi (dC, dI) clA (wX a cI L s0.2) s A H locs → (q.1 = 0 → ∀ (ls : Array Slot) (H : Heap) (locs : List Loc), lv_has ls 4 [(0, .ref (a 3)), (1, .int x1), (2, .int q.2.1)] → Wi (dC, dI) clA (wX a cI L q.2.2) s A H locs → W pr l e rm_Room_scanCells s m args below meth c H locs 0 0 Q (F0 m 123 ls [])) → W pr l e rm_Room_scanCells s m args below meth c H locs 0 0 Q (F0 m 2 ls []) := by
  intro k
  induction k with
  | zero => intro s0 q ls H locs h; cases h
  | succ k ih =>
    intro s0 q ls H locs h hl hI kX0
    obtain ⟨q1, hq1, h⟩ := rbLoop_succ h
    by_cases hc : q1.1 = 1
    · replace h := of_pos hc h
      refine b_Room_scanCells_B2 C hq1 hl hI (fun _ ls H locs hl hI => ih _ _ _ _ _ h hl hI kX0) (fun hz => absurd (hc.symm.trans hz) (by decide))
    · replace h := of_neg hc h
      cases h
      exact b_Room_scanCells_B2 C hq1 hl hI (fun hz => absurd hz hc) kX0
set_option maxHeartbeats 4000000 in
set_option maxRecDepth 100000 in
theorem c_Room_scanCells {l : Launch} {dC : Nat → ClassId} {dI : Nat → Nat → Nat} {a : Nat → Nat} {cI : ClassId} {L : Nat} {tt : Nat → Nat} {σ : St} {x1 : Int32} {q : St} (h : fRoom_scanCells L σ x1 = some q) : CV l (dC, dI) clA (tyX cI) (SXx tt) (wX a cI L σ) (wX a cI L q) y_Room_scanCells b_Room_scanCells 4 none rm_Room_scanCells [.ref (a 3), .int x1] := by
  refine CV_of (by decide) (Nat.le_of_ble_eq_true rfl) ?_
  intro pr e s m below meth c A ls C hr hl hI
  have hx := C.1
  have hb := C.2.1
  have hl : lv_has ls 4 [(0, .ref (a 3)), (1, .int x1)] := hl
  unfold fRoom_scanCells at h
  refine lv_iconst (v := 0) hx hb d_Room_scanCells_0 (by decide) ?_
  refine lv_istore_n (lv' := [(2, .int 0), (0, .ref (a 3)), (1, .int x1)]) hx hb d_Room_scanCells_1 rfl hl (by decide) rfl (fun ls hl => ?_)
  obtain ⟨q2, hq2, h⟩ := of_bind h
  refine l_Room_scanCells_B2 C _ _ _ _ _ _ hq2 (lv_sub hl [1, 2, 0] rfl) hI ?_
  intro _ ls H locs hl hI
  replace h := Option.some.inj h
  subst h
  exact rb_retV C hr hI d_Room_scanCells_123
theorem d_Room_make_0 : decode b_Room_make 0 = .ok (.iload_n 1, 1) := by decide +kernel
theorem d_Room_make_1 : decode b_Room_make 1 = .ok (.invokestatic 75, 3) := by decide +kernel
theorem d_Room_make_4 : decode b_Room_make 4 = .ok (.istore_n 2, 1) := by decide +kernel
theorem d_Room_make_5 : decode b_Room_make 5 = .ok (.aload_n 0, 1) := by decide +kernel
theorem d_Room_make_6 : decode b_Room_make 6 = .ok (.aload_n 0, 1) := by decide +kernel
theorem d_Room_make_7 : decode b_Room_make 7 = .ok (.getfield 15, 3) := by decide +kernel
theorem d_Room_make_10 : decode b_Room_make 10 = .ok (.iload_n 2, 1) := by decide +kernel
theorem d_Room_make_11 : decode b_Room_make 11 = .ok (.imul, 1) := by decide +kernel
theorem d_Room_make_12 : decode b_Room_make 12 = .ok (.invokevirtual 78, 3) := by decide +kernel
theorem d_Room_make_15 : decode b_Room_make 15 = .ok (.aload_n 0, 1) := by decide +kernel
theorem d_Room_make_16 : decode b_Room_make 16 = .ok (.getfield 42, 3) := by decide +kernel
theorem d_Room_make_19 : decode b_Room_make 19 = .ok (.ifCond .ne 26, 3) := by decide +kernel
theorem d_Room_make_22 : decode b_Room_make 22 = .ok (.iload_n 2, 1) := by decide +kernel
theorem d_Room_make_23 : decode b_Room_make 23 = .ok (.aload_n 0, 1) := by decide +kernel
theorem d_Room_make_24 : decode b_Room_make 24 = .ok (.invokevirtual 53, 3) := by decide +kernel
theorem d_Room_make_27 : decode b_Room_make 27 = .ok (.if_icmp .le 18, 3) := by decide +kernel
theorem d_Room_make_30 : decode b_Room_make 30 = .ok (.aload_n 0, 1) := by decide +kernel
theorem d_Room_make_31 : decode b_Room_make 31 = .ok (.getfield 60, 3) := by decide +kernel
theorem d_Room_make_34 : decode b_Room_make 34 = .ok (.aload_n 0, 1) := by decide +kernel
theorem d_Room_make_35 : decode b_Room_make 35 = .ok (.getfield 57, 3) := by decide +kernel
theorem d_Room_make_38 : decode b_Room_make 38 = .ok (.if_icmp .ne 7, 3) := by decide +kernel
theorem d_Room_make_41 : decode b_Room_make 41 = .ok (.aload_n 0, 1) := by decide +kernel
theorem d_Room_make_42 : decode b_Room_make 42 = .ok (.invokevirtual 81, 3) := by decide +kernel
theorem d_Room_make_45 : decode b_Room_make 45 = .ok (.aload_n 0, 1) := by decide +kernel
theorem d_Room_make_46 : decode b_Room_make 46 = .ok (.aload_n 0, 1) := by decide +kernel
theorem d_Room_make_47 : decode b_Room_make 47 = .ok (.getfield 42, 3) := by decide +kernel
theorem d_Room_make_50 : decode b_Room_make 50 = .ok (.ifCond .ne 11, 3) := by decide +kernel
theorem d_Room_make_53 : decode b_Room_make 53 = .ok (.iload_n 2, 1) := by decide +kernel
theorem d_Room_make_54 : decode b_Room_make 54 = .ok (.aload_n 0, 1) := by decide +kernel
theorem d_Room_make_55 : decode b_Room_make 55 = .ok (.invokevirtual 53, 3) := by decide +kernel
theorem d_Room_make_58 : decode b_Room_make 58 = .ok (.if_icmp .le 7, 3) := by decide +kernel
theorem d_Room_make_61 : decode b_Room_make 61 = .ok (.iconst 1, 1) := by decide +kernel
theorem d_Room_make_62 : decode b_Room_make 62 = .ok (.goto 4, 3) := by decide +kernel
theorem d_Room_make_65 : decode b_Room_make 65 = .ok (.iconst 0, 1) := by decide +kernel
theorem d_Room_make_66 : decode b_Room_make 66 = .ok (.putfield 42, 3) := by decide +kernel
theorem d_Room_make_69 : decode b_Room_make 69 = .ok (.aload_n 0, 1) := by decide +kernel
theorem d_Room_make_70 : decode b_Room_make 70 = .ok (.getfield 42, 3) := by decide +kernel
theorem d_Room_make_73 : decode b_Room_make 73 = .ok (.ifCond .eq 5, 3) := by decide +kernel
theorem d_Room_make_76 : decode b_Room_make 76 = .ok (.iconst (-1), 1) := by decide +kernel
theorem d_Room_make_77 : decode b_Room_make 77 = .ok (.ireturn, 1) := by decide +kernel
theorem d_Room_make_78 : decode b_Room_make 78 = .ok (.aload_n 0, 1) := by decide +kernel
theorem d_Room_make_79 : decode b_Room_make 79 = .ok (.dup, 1) := by decide +kernel
theorem d_Room_make_80 : decode b_Room_make 80 = .ok (.getfield 84, 3) := by decide +kernel
theorem d_Room_make_83 : decode b_Room_make 83 = .ok (.iload_n 2, 1) := by decide +kernel
theorem d_Room_make_84 : decode b_Room_make 84 = .ok (.isub, 1) := by decide +kernel
theorem d_Room_make_85 : decode b_Room_make 85 = .ok (.putfield 84, 3) := by decide +kernel
theorem d_Room_make_88 : decode b_Room_make 88 = .ok (.iload_n 1, 1) := by decide +kernel
theorem d_Room_make_89 : decode b_Room_make 89 = .ok (.invokestatic 63, 3) := by decide +kernel
theorem d_Room_make_92 : decode b_Room_make 92 = .ok (.istore_n 3, 1) := by decide +kernel
theorem d_Room_make_93 : decode b_Room_make 93 = .ok (.aload_n 0, 1) := by decide +kernel
theorem d_Room_make_94 : decode b_Room_make 94 = .ok (.getfield 18, 3) := by decide +kernel
theorem d_Room_make_97 : decode b_Room_make 97 = .ok (.aload_n 0, 1) := by decide +kernel
theorem d_Room_make_98 : decode b_Room_make 98 = .ok (.getfield 84, 3) := by decide +kernel
theorem d_Room_make_101 : decode b_Room_make 101 = .ok (.iload_n 1, 1) := by decide +kernel
theorem d_Room_make_102 : decode b_Room_make 102 = .ok (.iastore, 1) := by decide +kernel
theorem d_Room_make_103 : decode b_Room_make 103 = .ok (.iconst 1, 1) := by decide +kernel
theorem d_Room_make_104 : decode b_Room_make 104 = .ok (.istore 4, 2) := by decide +kernel
theorem d_Room_make_106 : decode b_Room_make 106 = .ok (.iload 4, 2) := by decide +kernel
theorem d_Room_make_108 : decode b_Room_make 108 = .ok (.iload_n 2, 1) := by decide +kernel
theorem d_Room_make_109 : decode b_Room_make 109 = .ok (.if_icmp .ge 32, 3) := by decide +kernel
theorem d_Room_make_112 : decode b_Room_make 112 = .ok (.aload_n 0, 1) := by decide +kernel
theorem d_Room_make_113 : decode b_Room_make 113 = .ok (.getfield 18, 3) := by decide +kernel
theorem d_Room_make_116 : decode b_Room_make 116 = .ok (.aload_n 0, 1) := by decide +kernel
theorem d_Room_make_117 : decode b_Room_make 117 = .ok (.getfield 84, 3) := by decide +kernel
theorem d_Room_make_120 : decode b_Room_make 120 = .ok (.iload 4, 2) := by decide +kernel
theorem d_Room_make_122 : decode b_Room_make 122 = .ok (.iadd, 1) := by decide +kernel
theorem d_Room_make_123 : decode b_Room_make 123 = .ok (.iload 4, 2) := by decide +kernel
theorem d_Room_make_125 : decode b_Room_make 125 = .ok (.iload_n 3, 1) := by decide +kernel
theorem d_Room_make_126 : decode b_Room_make 126 = .ok (.if_icmp .gt 7, 3) := by decide +kernel
theorem d_Room_make_129 : decode b_Room_make 129 = .ok (.iconst (-1), 1) := by decide +kernel
theorem d_Room_make_130 : decode b_Room_make 130 = .ok (.goto 4, 3) := by decide +kernel
theorem d_Room_make_133 : decode b_Room_make 133 = .ok (.iconst 0, 1) := by decide +kernel
theorem d_Room_make_134 : decode b_Room_make 134 = .ok (.iastore, 1) := by decide +kernel
theorem d_Room_make_135 : decode b_Room_make 135 = .ok (.iinc 4 1, 3) := by decide +kernel
theorem d_Room_make_138 : decode b_Room_make 138 = .ok (.goto (-32), 3) := by decide +kernel
theorem d_Room_make_141 : decode b_Room_make 141 = .ok (.aload_n 0, 1) := by decide +kernel
theorem d_Room_make_142 : decode b_Room_make 142 = .ok (.getfield 84, 3) := by decide +kernel
theorem d_Room_make_145 : decode b_Room_make 145 = .ok (.ireturn, 1) := by decide +kernel
abbrev rm_Room_make : Room := { frames := 4, cells := 0, slots := 0, locals := 132 }
set_option maxHeartbeats 4000000 in
set_option maxRecDepth 100000 in
theorem j_Room_make_B106_J134 {l : Launch} {dC : Nat → ClassId} {dI : Nat → Nat → Nat} {a : Nat → Nat} {cI : ClassId} {L : Nat} {tt : Nat → Nat} {pr : Program} {e : Env} {s : State} {m : MethodId} {args : Array Value} {below : List Frame} {meth : Method} {c : Code} {A : Nat → Prop} {ls : Array Slot} {H : Heap} {locs : List Loc} {σ : St} {x2 x3 x4 s0 s1 : Int32} {q : Nat × (Int32 × St)} {Q : State → Prop} (C : Cx (dC, dI) clA (tyX cI) (SXx tt) pr s m args meth c b_Room_make 5 y_Room_make.cls A) (h : fRoom_make_B106_J134 L σ x2 x3 x4 s0 s1 = some q) (hl : lv_has ls 5 [(0, .ref (a 3)), (2, .int x2), (3, .int x3), (4, .int x4)]) (hI : Wi (dC, dI) clA (wX a cI L σ) s A H locs) (kC : q.1 = 1 → ∀ (ls : Array Slot) (H : Heap) (locs : List Loc), lv_has ls 5 [(0, .ref (a 3)), (2, .int x2), (3, .int x3), (4, .int q.2.1)] → Wi (dC, dI) clA (wX a cI L q.2.2) s A H locs → W pr l e rm_Room_make s m args below meth c H locs 0 0 Q (F0 m 106 ls [])) (kX0 : q.1 = 0 → ∀ (ls : Array Slot) (H : Heap) (locs : List Loc), lv_has ls 5 [(0, .ref (a 3)), (2, .int x2), (3, .int x3), (4, .int q.2.1)] → Wi (dC, dI) clA (wX a cI L q.2.2) s A H locs → W pr l e rm_Room_make s m args below meth c H locs 0 0 Q (F0 m 141 ls [])) : W pr l e rm_Room_make s m args below meth c H locs 0 0 Q (F0 m 134 ls [.int s0, .int s1, .ref (a 14)]) := by
  have hx := C.1
  have hb := C.2.1
  unfold fRoom_make_B106_J134 at h
  obtain ⟨hg134, h⟩ := of_guard h
  refine as_X_10 C hI (σ' := (σ.1, va_up σ.2 10 (upd (σ.2 10) s1.toNatClampNeg s0))) rfl hg134 d_Room_make_134 (fun H locs hI => ?_)
  refine lv_iinc (k := 3) (v := x4 + 1) (lv' := [(4, .int (x4 + 1)), (0, .ref (a 3)), (2, .int x2), (3, .int x3)]) hx hb d_Room_make_135 hl rfl rfl (by decide) rfl (fun ls hl => ?_)
  refine lv_goto (tgt := 106) hx hb d_Room_make_138 (by decide) ?_
  replace h := Option.some.inj h
  subst h
  exact kC rfl _ _ _ (lv_sub hl [1, 2, 3, 0] rfl) hI
set_option maxHeartbeats 4000000 in
set_option maxRecDepth 100000 in
theorem b_Room_make_B106 {l : Launch} {dC : Nat → ClassId} {dI : Nat → Nat → Nat} {a : Nat → Nat} {cI : ClassId} {L : Nat} {tt : Nat → Nat} {pr : Program} {e : Env} {s : State} {m : MethodId} {args : Array Value} {below : List Frame} {meth : Method} {c : Code} {A : Nat → Prop} {ls : Array Slot} {H : Heap} {locs : List Loc} {x2 x3 : Int32} {s0 : Int32 × St} {q : Nat × (Int32 × St)} {Q : State → Prop} (C : Cx (dC, dI) clA (tyX cI) (SXx tt) pr s m args meth c b_Room_make 5 y_Room_make.cls A) (h : fRoom_make_B106 L x2 x3 s0 = some q) (hl : lv_has ls 5 [(0, .ref (a 3)), (2, .int x2), (3, .int x3), (4, .int s0.1)]) (hI : Wi (dC, dI) clA (wX a cI L s0.2) s A H locs) (kC : q.1 = 1 → ∀ (ls : Array Slot) (H : Heap) (locs : List Loc), lv_has ls 5 [(0, .ref (a 3)), (2, .int x2), (3, .int x3), (4, .int q.2.1)] → Wi (dC, dI) clA (wX a cI L q.2.2) s A H locs → W pr l e rm_Room_make s m args below meth c H locs 0 0 Q (F0 m 106 ls [])) (kX0 : q.1 = 0 → ∀ (ls : Array Slot) (H : Heap) (locs : List Loc), lv_has ls 5 [(0, .ref (a 3)), (2, .int x2), (3, .int x3), (4, .int q.2.1)] → Wi (dC, dI) clA (wX a cI L q.2.2) s A H locs → W pr l e rm_Room_make s m args below meth c H locs 0 0 Q (F0 m 141 ls [])) : W pr l e rm_Room_make s m args below meth c H locs 0 0 Q (F0 m 106 ls []) := by
  have hx := C.1
  have hb := C.2.1
  unfold fRoom_make_B106 at h
  refine lv_iload hx hb d_Room_make_106 (lv_at hl 3 rfl) ?_
  refine lv_iload_n hx hb d_Room_make_108 rfl (lv_at hl 1 rfl) ?_
  refine lv_icmp_ge (tgt := 141) hx hb d_Room_make_109 (by decide) (fun hc => ?_) (fun hc => ?_)
  · replace h := of_pos hc h
    replace h := Option.some.inj h
    subst h
    exact kX0 rfl _ _ _ (lv_sub hl [0, 1, 2, 3] rfl) hI
  · replace h := of_neg hc h
    refine lv_aload_n hx hb d_Room_make_112 rfl (lv_at hl 0 rfl) ?_
    refine gf_Room_18 C hI d_Room_make_113 ?_
    refine lv_aload_n hx hb d_Room_make_116 rfl (lv_at hl 0 rfl) ?_
    refine gf_Room_84 C hI (v := s0.2.1 17) rfl d_Room_make_117 ?_
    refine lv_iload hx hb d_Room_make_120 (lv_at hl 3 rfl) ?_
    refine lv_iadd hx hb d_Room_make_122 ?_
    refine lv_iload hx hb d_Room_make_123 (lv_at hl 3 rfl) ?_
    refine lv_iload_n hx hb d_Room_make_125 rfl (lv_at hl 2 rfl) ?_
    refine lv_icmp_gt (tgt := 133) hx hb d_Room_make_126 (by decide) (fun hc => ?_) (fun hc => ?_)
    · replace h := of_pos hc h
      refine lv_iconst (v := 0) hx hb d_Room_make_133 (by decide) ?_
      exact j_Room_make_B106_J134 C h (lv_sub hl [0, 1, 2, 3] rfl) hI kC kX0
    · replace h := of_neg hc h
      refine lv_iconst (v := (-1)) hx hb d_Room_make_129 (by decide) ?_
      refine lv_goto (tgt := 134) hx hb d_Room_make_130 (by decide) ?_
      exact j_Room_make_B106_J134 C h (lv_sub hl [0, 1, 2, 3] rfl) hI kC kX0
set_option maxHeartbeats 4000000 in
set_option maxRecDepth 100000 in
theorem l_Room_make_B106 {l : Launch} {dC : Nat → ClassId} {dI : Nat → Nat → Nat} {a : Nat → Nat} {cI : ClassId} {L : Nat} {tt : Nat → Nat} {pr : Program} {e : Env} {s : State} {m : MethodId} {args : Array Value} {below : List Frame} {meth : Method} {c : Code} {A : Nat → Prop} {x2 x3 : Int32} {Q : State → Prop} (C : Cx (dC, dI) clA (tyX cI) (SXx tt) pr s m args meth c b_Room_make 5 y_Room_make.cls A) : ∀ (k : Nat) (s0 : Int32 × St) (q : Nat × (Int32 × St)) (ls : Array Slot) (H : Heap) (locs : List Loc), rbLoop (fRoom_make_B106 L x2 x3) k s0 = some q → lv_has ls 5 [(0, .ref (a 3)), (2, .int x2), (3, .int x3), (4, .int s0.1)] → Wi (dC, dI) clA (wX a cI L s0.2) s A H locs → (q.1 = 0 → ∀ (ls : Array Slot) (H : Heap) (locs : List Loc), lv_has ls 5 [(0, .ref (a 3)), (2, .int x2), (3, .int x3), (4, .int q.2.1)] → Wi (dC, dI) clA (wX a cI L q.2.2) s A H locs → W pr l e rm_Room_make s m args below meth c H locs 0 0 Q (F0 m 141 ls [])) → W pr l e rm_Room_make s m args below meth c H locs 0 0 Q (F0 m 106 ls []) := by
  intro k
  induction k with
  | zero => intro s0 q ls H locs h; cases h
  | succ k ih =>
    intro s0 q ls H locs h hl hI kX0
    obtain ⟨q1, hq1, h⟩ := rbLoop_succ h
    by_cases hc : q1.1 = 1
    · replace h := of_pos hc h
      refine b_Room_make_B106 C hq1 hl hI (fun _ ls H locs hl hI => ih _ _ _ _ _ h hl hI kX0) (fun hz => absurd (hc.symm.trans hz) (by decide))
    · replace h := of_neg hc h
      cases h
      exact b_Room_make_B106 C hq1 hl hI (fun hz => absurd hz hc) kX0
set_option maxHeartbeats 4000000 in
set_option maxRecDepth 100000 in
theorem j_Room_make_J66 {l : Launch} {dC : Nat → ClassId} {dI : Nat → Nat → Nat} {a : Nat → Nat} {cI : ClassId} {L : Nat} {tt : Nat → Nat} {pr : Program} {e : Env} {s : State} {m : MethodId} {args : Array Value} {below : List Frame} {meth : Method} {c : Code} {A : Nat → Prop} {ls : Array Slot} {H : Heap} {locs : List Loc} {σ : St} {x1 x2 s0 : Int32} {q : Int32 × St} (C : Cx (dC, dI) clA (tyX cI) (SXx tt) pr s m args meth c b_Room_make 5 y_Room_make.cls A) (hr : meth.sig.returnType = (some .int)) (h : fRoom_make_J66 L σ x1 x2 s0 = some q) (hl : lv_has ls 5 [(0, .ref (a 3)), (1, .int x1), (2, .int x2)]) (hI : Wi (dC, dI) clA (wX a cI L σ) s A H locs)  : W pr l e rm_Room_make s m args below meth c H locs 0 0 (MQ below (rb_Qi (dC, dI) clA (tyX cI) (wX a cI L q.2) q.1 A) args s 0 0 A) (F0 m 66 ls [.int s0, .ref (a 3)]) := by
  have hx := C.1
  have hb := C.2.1
  unfold fRoom_make_J66 at h
  obtain ⟨hg66, h⟩ := of_guard h
  refine pf_Room_42 C hI (σ' := (upd σ.1 20 s0, σ.2)) rfl hg66 d_Room_make_66 (fun H locs hI => ?_)
  refine lv_aload_n hx hb d_Room_make_69 rfl (lv_at hl 0 rfl) ?_
  refine gf_Room_42 C hI (v := s0) rfl d_Room_make_70 ?_
  refine lv_if_eq (tgt := 78) hx hb d_Room_make_73 (by decide) (fun hc => ?_) (fun hc => ?_)
  · replace h := of_pos hc h
    refine lv_aload_n hx hb d_Room_make_78 rfl (lv_at hl 0 rfl) ?_
    refine lv_dup hx hb d_Room_make_79 rfl ?_
    refine gf_Room_84 C hI (v := σ.1 17) rfl d_Room_make_80 ?_
    refine lv_iload_n hx hb d_Room_make_83 rfl (lv_at hl 2 rfl) ?_
    refine lv_isub hx hb d_Room_make_84 ?_
    refine pf_Room_84 C hI (σ' := (upd (upd σ.1 20 s0) 17 ((σ.1 17) - x2), σ.2)) rfl d_Room_make_85 (fun H locs hI => ?_)
    refine lv_iload_n hx hb d_Room_make_88 rfl (lv_at hl 1 rfl) ?_
    obtain ⟨p89, hp89, h⟩ := of_bind h
    refine rb_callSI sxok C (c_Room_refsIn hp89) cw_Room_63 ⟨Nat.le_of_ble_eq_true rfl, Nat.le_of_ble_eq_true rfl⟩ ⟨rfl, rfl⟩ hI ⟨Nat.zero_le _, Nat.zero_le _⟩ (As := [.int x1]) rfl hl.1 (rest := []) (Nat.le_of_ble_eq_true rfl) rfl d_Room_make_89 (fun H locs hI => ?_)
    refine lv_istore_n (lv' := [(3, .int p89.1), (0, .ref (a 3)), (1, .int x1), (2, .int x2)]) hx hb d_Room_make_92 rfl hl (by decide) rfl (fun ls hl => ?_)
    refine lv_aload_n hx hb d_Room_make_93 rfl (lv_at hl 1 rfl) ?_
    refine gf_Room_18 C hI d_Room_make_94 ?_
    refine lv_aload_n hx hb d_Room_make_97 rfl (lv_at hl 1 rfl) ?_
    refine gf_Room_84 C hI (v := p89.2.1 17) rfl d_Room_make_98 ?_
    refine lv_iload_n hx hb d_Room_make_101 rfl (lv_at hl 2 rfl) ?_
    obtain ⟨hg102, h⟩ := of_guard h
    refine as_X_10 C hI (σ' := (p89.2.1, va_up p89.2.2 10 (upd (p89.2.2 10) (p89.2.1 17).toNatClampNeg x1))) rfl hg102 d_Room_make_102 (fun H locs hI => ?_)
    refine lv_iconst (v := 1) hx hb d_Room_make_103 (by decide) ?_
    refine lv_istore (lv' := [(4, .int 1), (3, .int p89.1), (0, .ref (a 3)), (1, .int x1), (2, .int x2)]) hx hb d_Room_make_104 hl (by decide) rfl (fun ls hl => ?_)
    obtain ⟨q106, hq106, h⟩ := of_bind h
    refine l_Room_make_B106 C _ _ _ _ _ _ hq106 (lv_sub hl [2, 4, 1, 0] rfl) hI ?_
    intro _ ls H locs hl hI
    refine lv_aload_n hx hb d_Room_make_141 rfl (lv_at hl 0 rfl) ?_
    refine gf_Room_84 C hI (v := q106.2.2.1 17) rfl d_Room_make_142 ?_
    replace h := Option.some.inj h
    subst h
    exact rb_retI C hr hI d_Room_make_145
  · replace h := of_neg hc h
    refine lv_iconst (v := (-1)) hx hb d_Room_make_76 (by decide) ?_
    replace h := Option.some.inj h
    subst h
    exact rb_retI C hr hI d_Room_make_77
set_option maxHeartbeats 4000000 in
set_option maxRecDepth 100000 in
theorem j_Room_make_J61 {l : Launch} {dC : Nat → ClassId} {dI : Nat → Nat → Nat} {a : Nat → Nat} {cI : ClassId} {L : Nat} {tt : Nat → Nat} {pr : Program} {e : Env} {s : State} {m : MethodId} {args : Array Value} {below : List Frame} {meth : Method} {c : Code} {A : Nat → Prop} {ls : Array Slot} {H : Heap} {locs : List Loc} {σ : St} {x1 x2 : Int32} {q : Int32 × St} (C : Cx (dC, dI) clA (tyX cI) (SXx tt) pr s m args meth c b_Room_make 5 y_Room_make.cls A) (hr : meth.sig.returnType = (some .int)) (h : fRoom_make_J61 L σ x1 x2 = some q) (hl : lv_has ls 5 [(0, .ref (a 3)), (1, .int x1), (2, .int x2)]) (hI : Wi (dC, dI) clA (wX a cI L σ) s A H locs)  : W pr l e rm_Room_make s m args below meth c H locs 0 0 (MQ below (rb_Qi (dC, dI) clA (tyX cI) (wX a cI L q.2) q.1 A) args s 0 0 A) (F0 m 61 ls [.ref (a 3)]) := by
  have hx := C.1
  have hb := C.2.1
  unfold fRoom_make_J61 at h
  refine lv_iconst (v := 1) hx hb d_Room_make_61 (by decide) ?_
  refine lv_goto (tgt := 66) hx hb d_Room_make_62 (by decide) ?_
  exact j_Room_make_J66 C hr h (lv_sub hl [0, 1, 2] rfl) hI
set_option maxHeartbeats 4000000 in
set_option maxRecDepth 100000 in
theorem j_Room_make_J45 {l : Launch} {dC : Nat → ClassId} {dI : Nat → Nat → Nat} {a : Nat → Nat} {cI : ClassId} {L : Nat} {tt : Nat → Nat} {pr : Program} {e : Env} {s : State} {m : MethodId} {args : Array Value} {below : List Frame} {meth : Method} {c : Code} {A : Nat → Prop} {ls : Array Slot} {H : Heap} {locs : List Loc} {σ : St} {x1 x2 : Int32} {q : Int32 × St} (C : Cx (dC, dI) clA (tyX cI) (SXx tt) pr s m args meth c b_Room_make 5 y_Room_make.cls A) (hr : meth.sig.returnType = (some .int)) (h : fRoom_make_J45 L σ x1 x2 = some q) (hl : lv_has ls 5 [(0, .ref (a 3)), (1, .int x1), (2, .int x2)]) (hI : Wi (dC, dI) clA (wX a cI L σ) s A H locs)  : W pr l e rm_Room_make s m args below meth c H locs 0 0 (MQ below (rb_Qi (dC, dI) clA (tyX cI) (wX a cI L q.2) q.1 A) args s 0 0 A) (F0 m 45 ls []) := by
  have hx := C.1
  have hb := C.2.1
  unfold fRoom_make_J45 at h
  refine lv_aload_n hx hb d_Room_make_45 rfl (lv_at hl 0 rfl) ?_
  refine lv_aload_n hx hb d_Room_make_46 rfl (lv_at hl 0 rfl) ?_
  refine gf_Room_42 C hI (v := σ.1 20) rfl d_Room_make_47 ?_
  refine lv_if_ne (tgt := 61) hx hb d_Room_make_50 (by decide) (fun hc => ?_) (fun hc => ?_)
  · replace h := of_neg hc h
    exact j_Room_make_J61 C hr h (lv_sub hl [0, 1, 2] rfl) hI
  · replace h := of_pos hc h
    refine lv_iload_n hx hb d_Room_make_53 rfl (lv_at hl 2 rfl) ?_
    refine lv_aload_n hx hb d_Room_make_54 rfl (lv_at hl 0 rfl) ?_
    obtain ⟨p55, hp55, h⟩ := of_bind h
    refine rb_callI sxok C (c_Room_freeCells hp55) cw_Room_53 ⟨Nat.le_of_ble_eq_true rfl, Nat.le_of_ble_eq_true rfl⟩ ⟨rfl, rfl⟩ (q0 := 3) (ci := 3) rfl rfl hI ⟨Nat.zero_le _, Nat.zero_le _⟩ (As := []) rfl hl.1 (rest := [.int x2, .ref (a 3)]) (Nat.le_of_ble_eq_true rfl) rfl d_Room_make_55 (fun H locs hI => ?_)
    refine lv_icmp_le (tgt := 65) hx hb d_Room_make_58 (by decide) (fun hc => ?_) (fun hc => ?_)
    · replace h := of_pos hc h
      refine lv_iconst (v := 0) hx hb d_Room_make_65 (by decide) ?_
      exact j_Room_make_J66 C hr h (lv_sub hl [0, 1, 2] rfl) hI
    · replace h := of_neg hc h
      exact j_Room_make_J61 C hr h (lv_sub hl [0, 1, 2] rfl) hI
set_option maxHeartbeats 4000000 in
set_option maxRecDepth 100000 in
theorem c_Room_make {l : Launch} {dC : Nat → ClassId} {dI : Nat → Nat → Nat} {a : Nat → Nat} {cI : ClassId} {L : Nat} {tt : Nat → Nat} {σ : St} {x1 : Int32} {q : Int32 × St} (h : fRoom_make L σ x1 = some q) : CI l (dC, dI) clA (tyX cI) (SXx tt) (wX a cI L σ) (wX a cI L q.2) y_Room_make b_Room_make 5 (some .int) rm_Room_make [.ref (a 3), .int x1] q.1 := by
  refine CI_of (by decide) (Nat.le_of_ble_eq_true rfl) ?_
  intro pr e s m below meth c A ls C hr hl hI
  have hx := C.1
  have hb := C.2.1
  have hl : lv_has ls 5 [(0, .ref (a 3)), (1, .int x1)] := hl
  unfold fRoom_make at h
  refine lv_iload_n hx hb d_Room_make_0 rfl (lv_at hl 1 rfl) ?_
  obtain ⟨p1, hp1, h⟩ := of_bind h
  refine rb_callSI sxok C (c_Room_sizeIn hp1) cw_Room_75 ⟨Nat.le_of_ble_eq_true rfl, Nat.le_of_ble_eq_true rfl⟩ ⟨rfl, rfl⟩ hI ⟨Nat.zero_le _, Nat.zero_le _⟩ (As := [.int x1]) rfl hl.1 (rest := []) (Nat.le_of_ble_eq_true rfl) rfl d_Room_make_1 (fun H locs hI => ?_)
  refine lv_istore_n (lv' := [(2, .int p1.1), (0, .ref (a 3)), (1, .int x1)]) hx hb d_Room_make_4 rfl hl (by decide) rfl (fun ls hl => ?_)
  refine lv_aload_n hx hb d_Room_make_5 rfl (lv_at hl 1 rfl) ?_
  refine lv_aload_n hx hb d_Room_make_6 rfl (lv_at hl 1 rfl) ?_
  refine gf_Room_15 C hI (v := p1.2.1 10) rfl d_Room_make_7 ?_
  refine lv_iload_n hx hb d_Room_make_10 rfl (lv_at hl 0 rfl) ?_
  refine lv_imul hx hb d_Room_make_11 ?_
  obtain ⟨p12, hp12, h⟩ := of_bind h
  refine rb_callV sxok C (c_Room_scanCells hp12) cw_Room_78 ⟨Nat.le_of_ble_eq_true rfl, Nat.le_of_ble_eq_true rfl⟩ ⟨rfl, rfl⟩ (q0 := 3) (ci := 3) rfl rfl hI ⟨Nat.zero_le _, Nat.zero_le _⟩ (As := [.int ((p1.2.1 10) * p1.1)]) rfl hl.1 (rest := []) (Nat.le_of_ble_eq_true rfl) rfl d_Room_make_12 (fun H locs hI => ?_)
  refine lv_aload_n hx hb d_Room_make_15 rfl (lv_at hl 1 rfl) ?_
  refine gf_Room_42 C hI (v := p12.1 20) rfl d_Room_make_16 ?_
  refine lv_if_ne (tgt := 45) hx hb d_Room_make_19 (by decide) (fun hc => ?_) (fun hc => ?_)
  · replace h := of_neg hc h
    exact j_Room_make_J45 C hr h (lv_sub hl [1, 2, 0] rfl) hI
  · replace h := of_pos hc h
    refine lv_iload_n hx hb d_Room_make_22 rfl (lv_at hl 0 rfl) ?_
    refine lv_aload_n hx hb d_Room_make_23 rfl (lv_at hl 1 rfl) ?_
    obtain ⟨p24, hp24, h⟩ := of_bind h
    refine rb_callI sxok C (c_Room_freeCells hp24) cw_Room_53 ⟨Nat.le_of_ble_eq_true rfl, Nat.le_of_ble_eq_true rfl⟩ ⟨rfl, rfl⟩ (q0 := 3) (ci := 3) rfl rfl hI ⟨Nat.zero_le _, Nat.zero_le _⟩ (As := []) rfl hl.1 (rest := [.int p1.1]) (Nat.le_of_ble_eq_true rfl) rfl d_Room_make_24 (fun H locs hI => ?_)
    refine lv_icmp_le (tgt := 45) hx hb d_Room_make_27 (by decide) (fun hc => ?_) (fun hc => ?_)
    · replace h := of_pos hc h
      exact j_Room_make_J45 C hr h (lv_sub hl [1, 2, 0] rfl) hI
    · replace h := of_neg hc h
      refine lv_aload_n hx hb d_Room_make_30 rfl (lv_at hl 1 rfl) ?_
      refine gf_Room_60 C hI (v := p24.2.1 14) rfl d_Room_make_31 ?_
      refine lv_aload_n hx hb d_Room_make_34 rfl (lv_at hl 1 rfl) ?_
      refine gf_Room_57 C hI (v := p24.2.1 13) rfl d_Room_make_35 ?_
      refine lv_icmp_ne (tgt := 45) hx hb d_Room_make_38 (by decide) (fun hc => ?_) (fun hc => ?_)
      · replace h := of_neg hc h
        exact j_Room_make_J45 C hr h (lv_sub hl [1, 2, 0] rfl) hI
      · replace h := of_pos hc h
        refine lv_aload_n hx hb d_Room_make_41 rfl (lv_at hl 1 rfl) ?_
        obtain ⟨p42, hp42, h⟩ := of_bind h
        refine rb_callV sxok C (c_Room_flip hp42) cw_Room_81 ⟨Nat.le_of_ble_eq_true rfl, Nat.le_of_ble_eq_true rfl⟩ ⟨rfl, rfl⟩ (q0 := 3) (ci := 3) rfl rfl hI ⟨Nat.zero_le _, Nat.zero_le _⟩ (As := []) rfl hl.1 (rest := []) (Nat.le_of_ble_eq_true rfl) rfl d_Room_make_42 (fun H locs hI => ?_)
        exact j_Room_make_J45 C hr h (lv_sub hl [1, 2, 0] rfl) hI
theorem d_Room_restart_0 : decode b_Room_restart 0 = .ok (.aload_n 0, 1) := by decide +kernel
theorem d_Room_restart_1 : decode b_Room_restart 1 = .ok (.iconst 0, 1) := by decide +kernel
theorem d_Room_restart_2 : decode b_Room_restart 2 = .ok (.invokevirtual 35, 3) := by decide +kernel
theorem d_Room_restart_5 : decode b_Room_restart 5 = .ok (.aload_n 0, 1) := by decide +kernel
theorem d_Room_restart_6 : decode b_Room_restart 6 = .ok (.iconst 0, 1) := by decide +kernel
theorem d_Room_restart_7 : decode b_Room_restart 7 = .ok (.putfield 39, 3) := by decide +kernel
theorem d_Room_restart_10 : decode b_Room_restart 10 = .ok (.aload_n 0, 1) := by decide +kernel
theorem d_Room_restart_11 : decode b_Room_restart 11 = .ok (.iconst 0, 1) := by decide +kernel
theorem d_Room_restart_12 : decode b_Room_restart 12 = .ok (.putfield 42, 3) := by decide +kernel
theorem d_Room_restart_15 : decode b_Room_restart 15 = .ok (.aload_n 0, 1) := by decide +kernel
theorem d_Room_restart_16 : decode b_Room_restart 16 = .ok (.aload_n 0, 1) := by decide +kernel
theorem d_Room_restart_17 : decode b_Room_restart 17 = .ok (.iload_n 1, 1) := by decide +kernel
theorem d_Room_restart_18 : decode b_Room_restart 18 = .ok (.invokestatic 46, 3) := by decide +kernel
theorem d_Room_restart_21 : decode b_Room_restart 21 = .ok (.invokevirtual 50, 3) := by decide +kernel
theorem d_Room_restart_24 : decode b_Room_restart 24 = .ok (.putfield 28, 3) := by decide +kernel
theorem d_Room_restart_27 : decode b_Room_restart 27 = .ok (.return_, 1) := by decide +kernel
abbrev rm_Room_restart : Room := { frames := 5, cells := 0, slots := 0, locals := 156 }
set_option maxHeartbeats 4000000 in
set_option maxRecDepth 100000 in
theorem c_Room_restart {l : Launch} {dC : Nat → ClassId} {dI : Nat → Nat → Nat} {a : Nat → Nat} {cI : ClassId} {L : Nat} {tt : Nat → Nat} {σ : St} {x1 : Int32} {q : St} (h : fRoom_restart L σ x1 = some q) : CV l (dC, dI) clA (tyX cI) (SXx tt) (wX a cI L σ) (wX a cI L q) y_Room_restart b_Room_restart 2 none rm_Room_restart [.ref (a 3), .int x1] := by
  refine CV_of (by decide) (Nat.le_of_ble_eq_true rfl) ?_
  intro pr e s m below meth c A ls C hr hl hI
  have hx := C.1
  have hb := C.2.1
  have hl : lv_has ls 2 [(0, .ref (a 3)), (1, .int x1)] := hl
  unfold fRoom_restart at h
  refine lv_aload_n hx hb d_Room_restart_0 rfl (lv_at hl 0 rfl) ?_
  refine lv_iconst (v := 0) hx hb d_Room_restart_1 (by decide) ?_
  obtain ⟨p2, hp2, h⟩ := of_bind h
  refine rb_callV sxok C (c_Room_useSpace hp2) cw_Room_35 ⟨Nat.le_of_ble_eq_true rfl, Nat.le_of_ble_eq_true rfl⟩ ⟨rfl, rfl⟩ (q0 := 3) (ci := 3) rfl rfl hI ⟨Nat.zero_le _, Nat.zero_le _⟩ (As := [.int 0]) rfl hl.1 (rest := []) (Nat.le_of_ble_eq_true rfl) rfl d_Room_restart_2 (fun H locs hI => ?_)
  refine lv_aload_n hx hb d_Room_restart_5 rfl (lv_at hl 0 rfl) ?_
  refine lv_iconst (v := 0) hx hb d_Room_restart_6 (by decide) ?_
  refine pf_Room_39 C hI (σ' := (upd p2.1 18 0, p2.2)) rfl d_Room_restart_7 (fun H locs hI => ?_)
  refine lv_aload_n hx hb d_Room_restart_10 rfl (lv_at hl 0 rfl) ?_
  refine lv_iconst (v := 0) hx hb d_Room_restart_11 (by decide) ?_
  refine pf_Room_42 C hI (σ' := (upd (upd p2.1 18 0) 20 0, p2.2)) rfl (by decide) d_Room_restart_12 (fun H locs hI => ?_)
  refine lv_aload_n hx hb d_Room_restart_15 rfl (lv_at hl 0 rfl) ?_
  refine lv_aload_n hx hb d_Room_restart_16 rfl (lv_at hl 0 rfl) ?_
  refine lv_iload_n hx hb d_Room_restart_17 rfl (lv_at hl 1 rfl) ?_
  obtain ⟨p18, hp18, h⟩ := of_bind h
  refine rb_callSI sxok C (c_Room_headOfFrame hp18) cw_Room_46 ⟨Nat.le_of_ble_eq_true rfl, Nat.le_of_ble_eq_true rfl⟩ ⟨rfl, rfl⟩ hI ⟨Nat.zero_le _, Nat.zero_le _⟩ (As := [.int x1]) rfl hl.1 (rest := [.ref (a 3), .ref (a 3)]) (Nat.le_of_ble_eq_true rfl) rfl d_Room_restart_18 (fun H locs hI => ?_)
  obtain ⟨p21, hp21, h⟩ := of_bind h
  refine rb_callI sxok C (c_Room_make hp21) cw_Room_50 ⟨Nat.le_of_ble_eq_true rfl, Nat.le_of_ble_eq_true rfl⟩ ⟨rfl, rfl⟩ (q0 := 3) (ci := 3) rfl rfl hI ⟨Nat.zero_le _, Nat.zero_le _⟩ (As := [.int p18.1]) rfl hl.1 (rest := [.ref (a 3)]) (Nat.le_of_ble_eq_true rfl) rfl d_Room_restart_21 (fun H locs hI => ?_)
  refine pf_Room_28 C hI (σ' := (upd p21.2.1 11 p21.1, p21.2.2)) rfl d_Room_restart_24 (fun H locs hI => ?_)
  replace h := Option.some.inj h
  subst h
  exact rb_retV C hr hI d_Room_restart_27
