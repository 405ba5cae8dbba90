theorem d_Kinds_has_0 : decode b_Kinds_has 0 = .ok (.iload_n 1, 1) := by decide +kernel
theorem d_Kinds_has_1 : decode b_Kinds_has 1 = .ok (.ifCond .lt 15, 3) := by decide +kernel
theorem d_Kinds_has_4 : decode b_Kinds_has 4 = .ok (.iload_n 1, 1) := by decide +kernel
theorem d_Kinds_has_5 : decode b_Kinds_has 5 = .ok (.aload_n 0, 1) := by decide +kernel
theorem d_Kinds_has_6 : decode b_Kinds_has 6 = .ok (.getfield 21, 3) := by decide +kernel
theorem d_Kinds_has_9 : decode b_Kinds_has 9 = .ok (.if_icmp .ge 7, 3) := by decide +kernel
theorem d_Kinds_has_12 : decode b_Kinds_has 12 = .ok (.iconst 1, 1) := by decide +kernel
theorem d_Kinds_has_13 : decode b_Kinds_has 13 = .ok (.goto 4, 3) := by decide +kernel
theorem d_Kinds_has_16 : decode b_Kinds_has 16 = .ok (.iconst 0, 1) := by decide +kernel
theorem d_Kinds_has_17 : decode b_Kinds_has 17 = .ok (.ireturn, 1) := by decide +kernel
abbrev rm_Kinds_has : Room := { frames := 0, cells := 0, slots := 0, locals := 0 }
set_option maxHeartbeats 4000000 in
set_option maxRecDepth 100000 in
theorem c_Kinds_has {l : Launch} {dC : Nat → ClassId} {dI : Nat → Nat → Nat} {a : Nat → Nat} {cI : ClassId} {L : Nat} {tt : Nat → Nat} {σ : St} {x1 : Int32} {q : Int32 × St} (h : fKinds_has L σ x1 = some q) : CI l (dC, dI) clA (tyX cI) (SXx tt) (wX a cI L σ) (wX a cI L q.2) y_Kinds_has b_Kinds_has 2 (some .boolean) rm_Kinds_has [.ref (a 1), .int x1] q.1 := by
  refine CI_of (by decide) (Nat.le_of_ble_eq_true rfl) ?_
  intro pr e s m below meth c A ls C hr hl hI
  have hx := C.1
  have hb := C.2.1
  have hl : lv_has ls 2 [(0, .ref (a 1)), (1, .int x1)] := hl
  unfold fKinds_has at h
  refine lv_iload_n hx hb d_Kinds_has_0 rfl (lv_at hl 1 rfl) ?_
  refine lv_if_lt (tgt := 16) hx hb d_Kinds_has_1 (by decide) (fun hc => ?_) (fun hc => ?_)
  · replace h := of_pos hc h
    refine lv_iconst (v := 0) hx hb d_Kinds_has_16 (by decide) ?_
    replace h := Option.some.inj h
    subst h
    exact rb_retZ C hr (Or.inl rfl) hI d_Kinds_has_17
  · replace h := of_neg hc h
    refine lv_iload_n hx hb d_Kinds_has_4 rfl (lv_at hl 1 rfl) ?_
    refine lv_aload_n hx hb d_Kinds_has_5 rfl (lv_at hl 0 rfl) ?_
    refine gf_Kinds_21 C hI (v := σ.1 6) rfl d_Kinds_has_6 ?_
    refine lv_icmp_ge (tgt := 16) hx hb d_Kinds_has_9 (by decide) (fun hc => ?_) (fun hc => ?_)
    · replace h := of_pos hc h
      refine lv_iconst (v := 0) hx hb d_Kinds_has_16 (by decide) ?_
      replace h := Option.some.inj h
      subst h
      exact rb_retZ C hr (Or.inl rfl) hI d_Kinds_has_17
    · replace h := of_neg hc h
      refine lv_iconst (v := 1) hx hb d_Kinds_has_12 (by decide) ?_
      refine lv_goto (tgt := 17) hx hb d_Kinds_has_13 (by decide) ?_
      replace h := Option.some.inj h
      subst h
      exact rb_retZ C hr (Or.inr rfl) hI d_Kinds_has_17
theorem d_Kinds_enter_0 : decode b_Kinds_enter 0 = .ok (.aload_n 0, 1) := by decide +kernel
theorem d_Kinds_enter_1 : decode b_Kinds_enter 1 = .ok (.getfield 18, 3) := by decide +kernel
theorem d_Kinds_enter_4 : decode b_Kinds_enter 4 = .ok (.iload_n 1, 1) := by decide +kernel
theorem d_Kinds_enter_5 : decode b_Kinds_enter 5 = .ok (.iconst 4, 1) := by decide +kernel
theorem d_Kinds_enter_6 : decode b_Kinds_enter 6 = .ok (.imul, 1) := by decide +kernel
theorem d_Kinds_enter_7 : decode b_Kinds_enter 7 = .ok (.iload_n 2, 1) := by decide +kernel
theorem d_Kinds_enter_8 : decode b_Kinds_enter 8 = .ok (.iadd, 1) := by decide +kernel
theorem d_Kinds_enter_9 : decode b_Kinds_enter 9 = .ok (.iload_n 3, 1) := by decide +kernel
theorem d_Kinds_enter_10 : decode b_Kinds_enter 10 = .ok (.iastore, 1) := by decide +kernel
theorem d_Kinds_enter_11 : decode b_Kinds_enter 11 = .ok (.return_, 1) := by decide +kernel
abbrev rm_Kinds_enter : Room := { frames := 0, cells := 0, slots := 0, locals := 0 }
set_option maxHeartbeats 4000000 in
set_option maxRecDepth 100000 in
theorem c_Kinds_enter {l : Launch} {dC : Nat → ClassId} {dI : Nat → Nat → Nat} {a : Nat → Nat} {cI : ClassId} {L : Nat} {tt : Nat → Nat} {σ : St} {x1 x2 x3 : Int32} {q : St} (h : fKinds_enter L σ x1 x2 x3 = some q) : CV l (dC, dI) clA (tyX cI) (SXx tt) (wX a cI L σ) (wX a cI L q) y_Kinds_enter b_Kinds_enter 4 none rm_Kinds_enter [.ref (a 1), .int x1, .int x2, .int x3] := by
  refine CV_of (by decide) (Nat.le_of_ble_eq_true rfl) ?_
  intro pr e s m below meth c A ls C hr hl hI
  have hx := C.1
  have hb := C.2.1
  have hl : lv_has ls 4 [(0, .ref (a 1)), (1, .int x1), (2, .int x2), (3, .int x3)] := hl
  unfold fKinds_enter at h
  refine lv_aload_n hx hb d_Kinds_enter_0 rfl (lv_at hl 0 rfl) ?_
  refine gf_Kinds_18 C hI d_Kinds_enter_1 ?_
  refine lv_iload_n hx hb d_Kinds_enter_4 rfl (lv_at hl 1 rfl) ?_
  refine lv_iconst (v := 4) hx hb d_Kinds_enter_5 (by decide) ?_
  refine lv_imul hx hb d_Kinds_enter_6 ?_
  refine lv_iload_n hx hb d_Kinds_enter_7 rfl (lv_at hl 2 rfl) ?_
  refine lv_iadd hx hb d_Kinds_enter_8 ?_
  refine lv_iload_n hx hb d_Kinds_enter_9 rfl (lv_at hl 3 rfl) ?_
  obtain ⟨hg10, h⟩ := of_guard h
  refine as_X_3 C hI (σ' := (σ.1, va_up σ.2 3 (upd (σ.2 3) ((x1 * 4) + x2).toNatClampNeg x3))) rfl hg10 d_Kinds_enter_10 (fun H locs hI => ?_)
  replace h := Option.some.inj h
  subst h
  exact rb_retV C hr hI d_Kinds_enter_11
theorem d_Kinds_entry_0 : decode b_Kinds_entry 0 = .ok (.aload_n 0, 1) := by decide +kernel
theorem d_Kinds_entry_1 : decode b_Kinds_entry 1 = .ok (.iload_n 1, 1) := by decide +kernel
theorem d_Kinds_entry_2 : decode b_Kinds_entry 2 = .ok (.invokevirtual 25, 3) := by decide +kernel
theorem d_Kinds_entry_5 : decode b_Kinds_entry 5 = .ok (.ifCond .eq 16, 3) := by decide +kernel
theorem d_Kinds_entry_8 : decode b_Kinds_entry 8 = .ok (.aload_n 0, 1) := by decide +kernel
theorem d_Kinds_entry_9 : decode b_Kinds_entry 9 = .ok (.getfield 18, 3) := by decide +kernel
theorem d_Kinds_entry_12 : decode b_Kinds_entry 12 = .ok (.iload_n 1, 1) := by decide +kernel
theorem d_Kinds_entry_13 : decode b_Kinds_entry 13 = .ok (.iconst 4, 1) := by decide +kernel
theorem d_Kinds_entry_14 : decode b_Kinds_entry 14 = .ok (.imul, 1) := by decide +kernel
theorem d_Kinds_entry_15 : decode b_Kinds_entry 15 = .ok (.iload_n 2, 1) := by decide +kernel
theorem d_Kinds_entry_16 : decode b_Kinds_entry 16 = .ok (.iadd, 1) := by decide +kernel
theorem d_Kinds_entry_17 : decode b_Kinds_entry 17 = .ok (.iaload, 1) := by decide +kernel
theorem d_Kinds_entry_18 : decode b_Kinds_entry 18 = .ok (.goto 4, 3) := by decide +kernel
theorem d_Kinds_entry_21 : decode b_Kinds_entry 21 = .ok (.iconst (-1), 1) := by decide +kernel
theorem d_Kinds_entry_22 : decode b_Kinds_entry 22 = .ok (.ireturn, 1) := by decide +kernel
abbrev rm_Kinds_entry : Room := { frames := 1, cells := 0, slots := 0, locals := 21 }
set_option maxHeartbeats 4000000 in
set_option maxRecDepth 100000 in
theorem c_Kinds_entry {l : Launch} {dC : Nat → ClassId} {dI : Nat → Nat → Nat} {a : Nat → Nat} {cI : ClassId} {L : Nat} {tt : Nat → Nat} {σ : St} {x1 x2 : Int32} {q : Int32 × St} (h : fKinds_entry L σ x1 x2 = some q) : CI l (dC, dI) clA (tyX cI) (SXx tt) (wX a cI L σ) (wX a cI L q.2) y_Kinds_entry b_Kinds_entry 3 (some .int) rm_Kinds_entry [.ref (a 1), .int x1, .int x2] q.1 := by
  refine CI_of (by decide) (Nat.le_of_ble_eq_true rfl) ?_
  intro pr e s m below meth c A ls C hr hl hI
  have hx := C.1
  have hb := C.2.1
  have hl : lv_has ls 3 [(0, .ref (a 1)), (1, .int x1), (2, .int x2)] := hl
  unfold fKinds_entry at h
  refine lv_aload_n hx hb d_Kinds_entry_0 rfl (lv_at hl 0 rfl) ?_
  refine lv_iload_n hx hb d_Kinds_entry_1 rfl (lv_at hl 1 rfl) ?_
  obtain ⟨p2, hp2, h⟩ := of_bind h
  refine rb_callI sxok C (c_Kinds_has hp2) cw_Kinds_25 ⟨Nat.le_of_ble_eq_true rfl, Nat.le_of_ble_eq_true rfl⟩ ⟨rfl, rfl⟩ (q0 := 1) (ci := 1) rfl rfl hI ⟨Nat.zero_le _, Nat.zero_le _⟩ (As := [.int x1]) rfl hl.1 (rest := []) (Nat.le_of_ble_eq_true rfl) rfl d_Kinds_entry_2 (fun H locs hI => ?_)
  refine lv_if_eq (tgt := 21) hx hb d_Kinds_entry_5 (by decide) (fun hc => ?_) (fun hc => ?_)
  · replace h := of_pos hc h
    refine lv_iconst (v := (-1)) hx hb d_Kinds_entry_21 (by decide) ?_
    replace h := Option.some.inj h
    subst h
    exact rb_retI C hr hI d_Kinds_entry_22
  · replace h := of_neg hc h
    refine lv_aload_n hx hb d_Kinds_entry_8 rfl (lv_at hl 0 rfl) ?_
    refine gf_Kinds_18 C hI d_Kinds_entry_9 ?_
    refine lv_iload_n hx hb d_Kinds_entry_12 rfl (lv_at hl 1 rfl) ?_
    refine lv_iconst (v := 4) hx hb d_Kinds_entry_13 (by decide) ?_
    refine lv_imul hx hb d_Kinds_entry_14 ?_
    refine lv_iload_n hx hb d_Kinds_entry_15 rfl (lv_at hl 2 rfl) ?_
    refine lv_iadd hx hb d_Kinds_entry_16 ?_
    obtain ⟨hg17, h⟩ := of_guard h
    refine al_X_3 C hI (f := p2.2.2 3) rfl hg17 d_Kinds_entry_17 ?_
    refine lv_goto (tgt := 22) hx hb d_Kinds_entry_18 (by decide) ?_
    replace h := Option.some.inj h
    subst h
    exact rb_retI C hr hI d_Kinds_entry_22
theorem d_Kinds_load_0 : decode b_Kinds_load 0 = .ok (.aload_n 0, 1) := by decide +kernel
theorem d_Kinds_load_1 : decode b_Kinds_load 1 = .ok (.getfield 21, 3) := by decide +kernel
theorem d_Kinds_load_4 : decode b_Kinds_load 4 = .ok (.iconst 4, 1) := by decide +kernel
theorem d_Kinds_load_5 : decode b_Kinds_load 5 = .ok (.if_icmp .eq 16, 3) := by decide +kernel
theorem d_Kinds_load_8 : decode b_Kinds_load 8 = .ok (.iload_n 1, 1) := by decide +kernel
theorem d_Kinds_load_9 : decode b_Kinds_load 9 = .ok (.iconst (-1), 1) := by decide +kernel
theorem d_Kinds_load_10 : decode b_Kinds_load 10 = .ok (.if_icmp .eq 13, 3) := by decide +kernel
theorem d_Kinds_load_13 : decode b_Kinds_load 13 = .ok (.aload_n 0, 1) := by decide +kernel
theorem d_Kinds_load_14 : decode b_Kinds_load 14 = .ok (.iload_n 1, 1) := by decide +kernel
theorem d_Kinds_load_15 : decode b_Kinds_load 15 = .ok (.invokevirtual 25, 3) := by decide +kernel
theorem d_Kinds_load_18 : decode b_Kinds_load 18 = .ok (.ifCond .ne 5, 3) := by decide +kernel
theorem d_Kinds_load_21 : decode b_Kinds_load 21 = .ok (.iconst (-1), 1) := by decide +kernel
theorem d_Kinds_load_22 : decode b_Kinds_load 22 = .ok (.ireturn, 1) := by decide +kernel
theorem d_Kinds_load_23 : decode b_Kinds_load 23 = .ok (.iload_n 1, 1) := by decide +kernel
theorem d_Kinds_load_24 : decode b_Kinds_load 24 = .ok (.iconst (-1), 1) := by decide +kernel
theorem d_Kinds_load_25 : decode b_Kinds_load 25 = .ok (.if_icmp .ne 7, 3) := by decide +kernel
theorem d_Kinds_load_28 : decode b_Kinds_load 28 = .ok (.iconst 0, 1) := by decide +kernel
theorem d_Kinds_load_29 : decode b_Kinds_load 29 = .ok (.goto 9, 3) := by decide +kernel
theorem d_Kinds_load_32 : decode b_Kinds_load 32 = .ok (.aload_n 0, 1) := by decide +kernel
theorem d_Kinds_load_33 : decode b_Kinds_load 33 = .ok (.getfield 9, 3) := by decide +kernel
theorem d_Kinds_load_36 : decode b_Kinds_load 36 = .ok (.iload_n 1, 1) := by decide +kernel
theorem d_Kinds_load_37 : decode b_Kinds_load 37 = .ok (.iaload, 1) := by decide +kernel
theorem d_Kinds_load_38 : decode b_Kinds_load 38 = .ok (.istore 4, 2) := by decide +kernel
theorem d_Kinds_load_40 : decode b_Kinds_load 40 = .ok (.iload_n 1, 1) := by decide +kernel
theorem d_Kinds_load_41 : decode b_Kinds_load 41 = .ok (.iconst (-1), 1) := by decide +kernel
theorem d_Kinds_load_42 : decode b_Kinds_load 42 = .ok (.if_icmp .ne 7, 3) := by decide +kernel
theorem d_Kinds_load_45 : decode b_Kinds_load 45 = .ok (.iconst 0, 1) := by decide +kernel
theorem d_Kinds_load_46 : decode b_Kinds_load 46 = .ok (.goto 9, 3) := by decide +kernel
theorem d_Kinds_load_49 : decode b_Kinds_load 49 = .ok (.aload_n 0, 1) := by decide +kernel
theorem d_Kinds_load_50 : decode b_Kinds_load 50 = .ok (.getfield 15, 3) := by decide +kernel
theorem d_Kinds_load_53 : decode b_Kinds_load 53 = .ok (.iload_n 1, 1) := by decide +kernel
theorem d_Kinds_load_54 : decode b_Kinds_load 54 = .ok (.iaload, 1) := by decide +kernel
theorem d_Kinds_load_55 : decode b_Kinds_load 55 = .ok (.istore 5, 2) := by decide +kernel
theorem d_Kinds_load_57 : decode b_Kinds_load 57 = .ok (.iload_n 2, 1) := by decide +kernel
theorem d_Kinds_load_58 : decode b_Kinds_load 58 = .ok (.iload 4, 2) := by decide +kernel
theorem d_Kinds_load_60 : decode b_Kinds_load 60 = .ok (.if_icmp .lt 19, 3) := by decide +kernel
theorem d_Kinds_load_63 : decode b_Kinds_load 63 = .ok (.iload_n 2, 1) := by decide +kernel
theorem d_Kinds_load_64 : decode b_Kinds_load 64 = .ok (.iconst 3, 1) := by decide +kernel
theorem d_Kinds_load_65 : decode b_Kinds_load 65 = .ok (.if_icmp .gt 14, 3) := by decide +kernel
theorem d_Kinds_load_68 : decode b_Kinds_load 68 = .ok (.iload_n 3, 1) := by decide +kernel
theorem d_Kinds_load_69 : decode b_Kinds_load 69 = .ok (.iload 5, 2) := by decide +kernel
theorem d_Kinds_load_71 : decode b_Kinds_load 71 = .ok (.if_icmp .lt 8, 3) := by decide +kernel
theorem d_Kinds_load_74 : decode b_Kinds_load 74 = .ok (.iload_n 3, 1) := by decide +kernel
theorem d_Kinds_load_75 : decode b_Kinds_load 75 = .ok (.iconst 3, 1) := by decide +kernel
theorem d_Kinds_load_76 : decode b_Kinds_load 76 = .ok (.if_icmp .le 5, 3) := by decide +kernel
theorem d_Kinds_load_79 : decode b_Kinds_load 79 = .ok (.iconst (-1), 1) := by decide +kernel
theorem d_Kinds_load_80 : decode b_Kinds_load 80 = .ok (.ireturn, 1) := by decide +kernel
theorem d_Kinds_load_81 : decode b_Kinds_load 81 = .ok (.aload_n 0, 1) := by decide +kernel
theorem d_Kinds_load_82 : decode b_Kinds_load 82 = .ok (.getfield 21, 3) := by decide +kernel
theorem d_Kinds_load_85 : decode b_Kinds_load 85 = .ok (.istore 6, 2) := by decide +kernel
theorem d_Kinds_load_87 : decode b_Kinds_load 87 = .ok (.iconst 0, 1) := by decide +kernel
theorem d_Kinds_load_88 : decode b_Kinds_load 88 = .ok (.istore 7, 2) := by decide +kernel
theorem d_Kinds_load_90 : decode b_Kinds_load 90 = .ok (.iload 7, 2) := by decide +kernel
theorem d_Kinds_load_92 : decode b_Kinds_load 92 = .ok (.iconst 4, 1) := by decide +kernel
theorem d_Kinds_load_93 : decode b_Kinds_load 93 = .ok (.if_icmp .ge 24, 3) := by decide +kernel
theorem d_Kinds_load_96 : decode b_Kinds_load 96 = .ok (.aload_n 0, 1) := by decide +kernel
theorem d_Kinds_load_97 : decode b_Kinds_load 97 = .ok (.iload 6, 2) := by decide +kernel
theorem d_Kinds_load_99 : decode b_Kinds_load 99 = .ok (.iload 7, 2) := by decide +kernel
theorem d_Kinds_load_101 : decode b_Kinds_load 101 = .ok (.aload_n 0, 1) := by decide +kernel
theorem d_Kinds_load_102 : decode b_Kinds_load 102 = .ok (.iload_n 1, 1) := by decide +kernel
theorem d_Kinds_load_103 : decode b_Kinds_load 103 = .ok (.iload 7, 2) := by decide +kernel
theorem d_Kinds_load_105 : decode b_Kinds_load 105 = .ok (.invokevirtual 29, 3) := by decide +kernel
theorem d_Kinds_load_108 : decode b_Kinds_load 108 = .ok (.invokevirtual 33, 3) := by decide +kernel
theorem d_Kinds_load_111 : decode b_Kinds_load 111 = .ok (.iinc 7 1, 3) := by decide +kernel
theorem d_Kinds_load_114 : decode b_Kinds_load 114 = .ok (.goto (-24), 3) := by decide +kernel
theorem d_Kinds_load_117 : decode b_Kinds_load 117 = .ok (.aload_n 0, 1) := by decide +kernel
theorem d_Kinds_load_118 : decode b_Kinds_load 118 = .ok (.getfield 9, 3) := by decide +kernel
theorem d_Kinds_load_121 : decode b_Kinds_load 121 = .ok (.iload 6, 2) := by decide +kernel
theorem d_Kinds_load_123 : decode b_Kinds_load 123 = .ok (.iload_n 2, 1) := by decide +kernel
theorem d_Kinds_load_124 : decode b_Kinds_load 124 = .ok (.iastore, 1) := by decide +kernel
theorem d_Kinds_load_125 : decode b_Kinds_load 125 = .ok (.aload_n 0, 1) := by decide +kernel
theorem d_Kinds_load_126 : decode b_Kinds_load 126 = .ok (.getfield 15, 3) := by decide +kernel
theorem d_Kinds_load_129 : decode b_Kinds_load 129 = .ok (.iload 6, 2) := by decide +kernel
theorem d_Kinds_load_131 : decode b_Kinds_load 131 = .ok (.iload_n 3, 1) := by decide +kernel
theorem d_Kinds_load_132 : decode b_Kinds_load 132 = .ok (.iastore, 1) := by decide +kernel
theorem d_Kinds_load_133 : decode b_Kinds_load 133 = .ok (.aload_n 0, 1) := by decide +kernel
theorem d_Kinds_load_134 : decode b_Kinds_load 134 = .ok (.dup, 1) := by decide +kernel
theorem d_Kinds_load_135 : decode b_Kinds_load 135 = .ok (.getfield 21, 3) := by decide +kernel
theorem d_Kinds_load_138 : decode b_Kinds_load 138 = .ok (.iconst 1, 1) := by decide +kernel
theorem d_Kinds_load_139 : decode b_Kinds_load 139 = .ok (.iadd, 1) := by decide +kernel
theorem d_Kinds_load_140 : decode b_Kinds_load 140 = .ok (.putfield 21, 3) := by decide +kernel
theorem d_Kinds_load_143 : decode b_Kinds_load 143 = .ok (.iload 6, 2) := by decide +kernel
theorem d_Kinds_load_145 : decode b_Kinds_load 145 = .ok (.ireturn, 1) := by decide +kernel
abbrev rm_Kinds_load : Room := { frames := 2, cells := 0, slots := 0, locals := 43 }
set_option maxHeartbeats 4000000 in
set_option maxRecDepth 100000 in
theorem b_Kinds_load_B90 {l : Launch} {dC : Nat → ClassId} {dI : Nat → Nat → Nat} {a : Nat → Nat} {cI : ClassId} {L : Nat} {tt : Nat → Nat} {pr : Program} {e : Env} {s : State} {m : MethodId} {args : Array Value} {below : List Frame} {meth : Method} {c : Code} {A : Nat → Prop} {ls : Array Slot} {H : Heap} {locs : List Loc} {x1 x2 x3 x6 : Int32} {s0 : Int32 × St} {q : Nat × (Int32 × St)} {Q : State → Prop} (C : Cx (dC, dI) clA (tyX cI) (SXx tt) pr s m args meth c b_Kinds_load 8 y_Kinds_load.cls A) (h : fKinds_load_B90 L x1 x2 x3 x6 s0 = some q) (hl : lv_has ls 8 [(0, .ref (a 1)), (1, .int x1), (2, .int x2), (3, .int x3), (6, .int x6), (7, .int s0.1)]) (hI : Wi (dC, dI) clA (wX a cI L s0.2) s A H locs) (kC : q.1 = 1 → ∀ (ls : Array Slot) (H : Heap) (locs : List Loc), lv_has ls 8 [(0, .ref (a 1)), (1, .int x1), (2, .int x2), (3, .int x3), (6, .int x6), (7, .int q.2.1)] → Wi (dC, dI) clA (wX a cI L q.2.2) s A H locs → W pr l e rm_Kinds_load s m args below meth c H locs 0 0 Q (F0 m 90 ls [])) (kX0 : q.1 = 0 → ∀ (ls : Array Slot) (H : Heap) (locs : List Loc), lv_has ls 8 [(0, .ref (a 1)), (1, .int x1), (2, .int x2), (3, .int x3), (6, .int x6), (7, .int q.2.1)] → Wi (dC, dI) clA (wX a cI L q.2.2) s A H locs → W pr l e rm_Kinds_load s m args below meth c H locs 0 0 Q (F0 m 117 ls [])) : W pr l e rm_Kinds_load s m args below meth c H locs 0 0 Q (F0 m 90 ls []) := by
  have hx := C.1
  have hb := C.2.1
  unfold fKinds_load_B90 at h
  refine lv_iload hx hb d_Kinds_load_90 (lv_at hl 5 rfl) ?_
  refine lv_iconst (v := 4) hx hb d_Kinds_load_92 (by decide) ?_
  refine lv_icmp_ge (tgt := 117) hx hb d_Kinds_load_93 (by decide) (fun hc => ?_) (fun hc => ?_)
  · replace h := of_pos hc h
    replace h := Option.some.inj h
    subst h
    exact kX0 rfl _ _ _ (lv_sub hl [0, 1, 2, 3, 4, 5] rfl) hI
  · replace h := of_neg hc h
    refine lv_aload_n hx hb d_Kinds_load_96 rfl (lv_at hl 0 rfl) ?_
    refine lv_iload hx hb d_Kinds_load_97 (lv_at hl 4 rfl) ?_
    refine lv_iload hx hb d_Kinds_load_99 (lv_at hl 5 rfl) ?_
    refine lv_aload_n hx hb d_Kinds_load_101 rfl (lv_at hl 0 rfl) ?_
    refine lv_iload_n hx hb d_Kinds_load_102 rfl (lv_at hl 1 rfl) ?_
    refine lv_iload hx hb d_Kinds_load_103 (lv_at hl 5 rfl) ?_
    obtain ⟨p105, hp105, h⟩ := of_bind h
    refine rb_callI sxok C (c_Kinds_entry hp105) cw_Kinds_29 ⟨Nat.le_of_ble_eq_true rfl, Nat.le_of_ble_eq_true rfl⟩ ⟨rfl, rfl⟩ (q0 := 1) (ci := 1) rfl rfl hI ⟨Nat.zero_le _, Nat.zero_le _⟩ (As := [.int x1, .int s0.1]) rfl hl.1 (rest := [.int s0.1, .int x6, .ref (a 1)]) (Nat.le_of_ble_eq_true rfl) rfl d_Kinds_load_105 (fun H locs hI => ?_)
    obtain ⟨p108, hp108, h⟩ := of_bind h
    refine rb_callV sxok C (c_Kinds_enter hp108) cw_Kinds_33 ⟨Nat.le_of_ble_eq_true rfl, Nat.le_of_ble_eq_true rfl⟩ ⟨rfl, rfl⟩ (q0 := 1) (ci := 1) rfl rfl hI ⟨Nat.zero_le _, Nat.zero_le _⟩ (As := [.int x6, .int s0.1, .int p105.1]) rfl hl.1 (rest := []) (Nat.le_of_ble_eq_true rfl) rfl d_Kinds_load_108 (fun H locs hI => ?_)
    refine lv_iinc (k := 5) (v := s0.1 + 1) (lv' := [(7, .int (s0.1 + 1)), (0, .ref (a 1)), (1, .int x1), (2, .int x2), (3, .int x3), (6, .int x6)]) hx hb d_Kinds_load_111 hl rfl rfl (by decide) rfl (fun ls hl => ?_)
    refine lv_goto (tgt := 90) hx hb d_Kinds_load_114 (by decide) ?_
    replace h := Option.some.inj h
    subst h
    exact kC rfl _ _ _ (lv_sub hl [1, 2, 3, 4, 5, 0] rfl) hI
set_option maxHeartbeats 4000000 in
set_option maxRecDepth 100000 in
theorem l_Kinds_load_B90 {l : Launch} {dC : Nat → ClassId} {dI : Nat → Nat → Nat} {a : Nat → Nat} {cI : ClassId} {L : Nat} {tt : Nat → Nat} {pr : Program} {e : Env} {s : State} {m : MethodId} {args : Array Value} {below : List Frame} {meth : Method} {c : Code} {A : Nat → Prop} {x1 x2 x3 x6 : Int32} {Q : State → Prop} (C : Cx (dC, dI) clA (tyX cI) (SXx tt) pr s m args meth c b_Kinds_load 8 y_Kinds_load.cls A) : ∀ (k : Nat) (s0 : Int32 × St) (q : Nat × (Int32 × St)) (ls : Array Slot) (H : Heap) (locs : List Loc), rbLoop (fKinds_load_B90 L x1 x2 x3 x6) k s0 = some q → lv_has ls 8 [(0, .ref (a 1)), (1, .int x1), (2, .int x2), (3, .int x3), (6, .int x6), (7, .int s0.1)] → Wi (dC, dI) clA (wX a cI L s0.2) s A H locs → (q.1 = 0 → ∀ (ls : Array Slot) (H : Heap) (locs : List Loc), lv_has ls 8 [(0, .ref (a 1)), (1, .int x1), (2, .int x2), (3, .int x3), (6, .int x6), (7, .int q.2.1)] → Wi (dC, dI) clA (wX a cI L q.2.2) s A H locs → W pr l e rm_Kinds_load s m args below meth c H locs 0 0 Q (F0 m 117 ls [])) → W pr l e rm_Kinds_load s m args below meth c H locs 0 0 Q (F0 m 90 ls []) := by
  intro k
  induction k with
  | zero => intro s0 q ls H locs h; cases h
  | succ k ih =>
    intro s0 q ls H locs h hl hI kX0
    obtain ⟨q1, hq1, h⟩ := rbLoop_succ h
    by_cases hc : q1.1 = 1
    · replace h := of_pos hc h
      refine b_Kinds_load_B90 C hq1 hl hI (fun _ ls H locs hl hI => ih _ _ _ _ _ h hl hI kX0) (fun hz => absurd (hc.symm.trans hz) (by decide))
    · replace h := of_neg hc h
      cases h
      exact b_Kinds_load_B90 C hq1 hl hI (fun hz => absurd hz hc) kX0
set_option maxHeartbeats 4000000 in
set_option maxRecDepth 100000 in
theorem j_Kinds_load_J55 {l : Launch} {dC : Nat → ClassId} {dI : Nat → Nat → Nat} {a : Nat → Nat} {cI : ClassId} {L : Nat} {tt : Nat → Nat} {pr : Program} {e : Env} {s : State} {m : MethodId} {args : Array Value} {below : List Frame} {meth : Method} {c : Code} {A : Nat → Prop} {ls : Array Slot} {H : Heap} {locs : List Loc} {σ : St} {x1 x2 x3 x4 s0 : Int32} {q : Int32 × St} (C : Cx (dC, dI) clA (tyX cI) (SXx tt) pr s m args meth c b_Kinds_load 8 y_Kinds_load.cls A) (hr : meth.sig.returnType = (some .int)) (h : fKinds_load_J55 L σ x1 x2 x3 x4 s0 = some q) (hl : lv_has ls 8 [(0, .ref (a 1)), (1, .int x1), (2, .int x2), (3, .int x3), (4, .int x4)]) (hI : Wi (dC, dI) clA (wX a cI L σ) s A H locs)  : W pr l e rm_Kinds_load s m args below meth c H locs 0 0 (MQ below (rb_Qi (dC, dI) clA (tyX cI) (wX a cI L q.2) q.1 A) args s 0 0 A) (F0 m 55 ls [.int s0]) := by
  have hx := C.1
  have hb := C.2.1
  unfold fKinds_load_J55 at h
  refine lv_istore (lv' := [(5, .int s0), (0, .ref (a 1)), (1, .int x1), (2, .int x2), (3, .int x3), (4, .int x4)]) hx hb d_Kinds_load_55 hl (by decide) rfl (fun ls hl => ?_)
  refine lv_iload_n hx hb d_Kinds_load_57 rfl (lv_at hl 3 rfl) ?_
  refine lv_iload hx hb d_Kinds_load_58 (lv_at hl 5 rfl) ?_
  refine lv_icmp_lt (tgt := 79) hx hb d_Kinds_load_60 (by decide) (fun hc => ?_) (fun hc => ?_)
  · replace h := of_pos hc h
    refine lv_iconst (v := (-1)) hx hb d_Kinds_load_79 (by decide) ?_
    replace h := Option.some.inj h
    subst h
    exact rb_retI C hr hI d_Kinds_load_80
  · replace h := of_neg hc h
    refine lv_iload_n hx hb d_Kinds_load_63 rfl (lv_at hl 3 rfl) ?_
    refine lv_iconst (v := 3) hx hb d_Kinds_load_64 (by decide) ?_
    refine lv_icmp_gt (tgt := 79) hx hb d_Kinds_load_65 (by decide) (fun hc => ?_) (fun hc => ?_)
    · replace h := of_pos hc h
      refine lv_iconst (v := (-1)) hx hb d_Kinds_load_79 (by decide) ?_
      replace h := Option.some.inj h
      subst h
      exact rb_retI C hr hI d_Kinds_load_80
    · replace h := of_neg hc h
      refine lv_iload_n hx hb d_Kinds_load_68 rfl (lv_at hl 4 rfl) ?_
      refine lv_iload hx hb d_Kinds_load_69 (lv_at hl 0 rfl) ?_
      refine lv_icmp_lt (tgt := 79) hx hb d_Kinds_load_71 (by decide) (fun hc => ?_) (fun hc => ?_)
      · replace h := of_pos hc h
        refine lv_iconst (v := (-1)) hx hb d_Kinds_load_79 (by decide) ?_
        replace h := Option.some.inj h
        subst h
        exact rb_retI C hr hI d_Kinds_load_80
      · replace h := of_neg hc h
        refine lv_iload_n hx hb d_Kinds_load_74 rfl (lv_at hl 4 rfl) ?_
        refine lv_iconst (v := 3) hx hb d_Kinds_load_75 (by decide) ?_
        refine lv_icmp_le (tgt := 81) hx hb d_Kinds_load_76 (by decide) (fun hc => ?_) (fun hc => ?_)
        · replace h := of_pos hc h
          refine lv_aload_n hx hb d_Kinds_load_81 rfl (lv_at hl 1 rfl) ?_
          refine gf_Kinds_21 C hI (v := σ.1 6) rfl d_Kinds_load_82 ?_
          refine lv_istore (lv' := [(6, .int (σ.1 6)), (5, .int s0), (0, .ref (a 1)), (1, .int x1), (2, .int x2), (3, .int x3), (4, .int x4)]) hx hb d_Kinds_load_85 hl (by decide) rfl (fun ls hl => ?_)
          refine lv_iconst (v := 0) hx hb d_Kinds_load_87 (by decide) ?_
          refine lv_istore (lv' := [(7, .int 0), (6, .int (σ.1 6)), (5, .int s0), (0, .ref (a 1)), (1, .int x1), (2, .int x2), (3, .int x3), (4, .int x4)]) hx hb d_Kinds_load_88 hl (by decide) rfl (fun ls hl => ?_)
          obtain ⟨q90, hq90, h⟩ := of_bind h
          refine l_Kinds_load_B90 C _ _ _ _ _ _ hq90 (lv_sub hl [3, 4, 5, 6, 1, 0] rfl) hI ?_
          intro _ ls H locs hl hI
          refine lv_aload_n hx hb d_Kinds_load_117 rfl (lv_at hl 0 rfl) ?_
          refine gf_Kinds_9 C hI d_Kinds_load_118 ?_
          refine lv_iload hx hb d_Kinds_load_121 (lv_at hl 4 rfl) ?_
          refine lv_iload_n hx hb d_Kinds_load_123 rfl (lv_at hl 2 rfl) ?_
          obtain ⟨hg124, h⟩ := of_guard h
          refine as_X_1 C hI (σ' := (q90.2.2.1, va_up q90.2.2.2 1 (upd (q90.2.2.2 1) (σ.1 6).toNatClampNeg x2))) rfl hg124 d_Kinds_load_124 (fun H locs hI => ?_)
          refine lv_aload_n hx hb d_Kinds_load_125 rfl (lv_at hl 0 rfl) ?_
          refine gf_Kinds_15 C hI d_Kinds_load_126 ?_
          refine lv_iload hx hb d_Kinds_load_129 (lv_at hl 4 rfl) ?_
          refine lv_iload_n hx hb d_Kinds_load_131 rfl (lv_at hl 3 rfl) ?_
          obtain ⟨hg132, h⟩ := of_guard h
          refine as_X_2 C hI (σ' := (q90.2.2.1, va_up (va_up q90.2.2.2 1 (upd (q90.2.2.2 1) (σ.1 6).toNatClampNeg x2)) 2 (upd (q90.2.2.2 2) (σ.1 6).toNatClampNeg x3))) rfl hg132 d_Kinds_load_132 (fun H locs hI => ?_)
          refine lv_aload_n hx hb d_Kinds_load_133 rfl (lv_at hl 0 rfl) ?_
          refine lv_dup hx hb d_Kinds_load_134 rfl ?_
          refine gf_Kinds_21 C hI (v := q90.2.2.1 6) rfl d_Kinds_load_135 ?_
          refine lv_iconst (v := 1) hx hb d_Kinds_load_138 (by decide) ?_
          refine lv_iadd hx hb d_Kinds_load_139 ?_
          refine pf_Kinds_21 C hI (σ' := (upd q90.2.2.1 6 ((q90.2.2.1 6) + 1), va_up (va_up q90.2.2.2 1 (upd (q90.2.2.2 1) (σ.1 6).toNatClampNeg x2)) 2 (upd (q90.2.2.2 2) (σ.1 6).toNatClampNeg x3))) rfl d_Kinds_load_140 (fun H locs hI => ?_)
          refine lv_iload hx hb d_Kinds_load_143 (lv_at hl 4 rfl) ?_
          replace h := Option.some.inj h
          subst h
          exact rb_retI C hr hI d_Kinds_load_145
        · replace h := of_neg hc h
          refine lv_iconst (v := (-1)) hx hb d_Kinds_load_79 (by decide) ?_
          replace h := Option.some.inj h
          subst h
          exact rb_retI C hr hI d_Kinds_load_80
set_option maxHeartbeats 4000000 in
set_option maxRecDepth 100000 in
theorem j_Kinds_load_J38 {l : Launch} {dC : Nat → ClassId} {dI : Nat → Nat → Nat} {a : Nat → Nat} {cI : ClassId} {L : Nat} {tt : Nat → Nat} {pr : Program} {e : Env} {s : State} {m : MethodId} {args : Array Value} {below : List Frame} {meth : Method} {c : Code} {A : Nat → Prop} {ls : Array Slot} {H : Heap} {locs : List Loc} {σ : St} {x1 x2 x3 s0 : Int32} {q : Int32 × St} (C : Cx (dC, dI) clA (tyX cI) (SXx tt) pr s m args meth c b_Kinds_load 8 y_Kinds_load.cls A) (hr : meth.sig.returnType = (some .int)) (h : fKinds_load_J38 L σ x1 x2 x3 s0 = some q) (hl : lv_has ls 8 [(0, .ref (a 1)), (1, .int x1), (2, .int x2), (3, .int x3)]) (hI : Wi (dC, dI) clA (wX a cI L σ) s A H locs)  : W pr l e rm_Kinds_load s m args below meth c H locs 0 0 (MQ below (rb_Qi (dC, dI) clA (tyX cI) (wX a cI L q.2) q.1 A) args s 0 0 A) (F0 m 38 ls [.int s0]) := by
  have hx := C.1
  have hb := C.2.1
  unfold fKinds_load_J38 at h
  refine lv_istore (lv' := [(4, .int s0), (0, .ref (a 1)), (1, .int x1), (2, .int x2), (3, .int x3)]) hx hb d_Kinds_load_38 hl (by decide) rfl (fun ls hl => ?_)
  refine lv_iload_n hx hb d_Kinds_load_40 rfl (lv_at hl 2 rfl) ?_
  refine lv_iconst (v := (-1)) hx hb d_Kinds_load_41 (by decide) ?_
  refine lv_icmp_ne (tgt := 49) hx hb d_Kinds_load_42 (by decide) (fun hc => ?_) (fun hc => ?_)
  · replace h := of_neg hc h
    refine lv_aload_n hx hb d_Kinds_load_49 rfl (lv_at hl 1 rfl) ?_
    refine gf_Kinds_15 C hI d_Kinds_load_50 ?_
    refine lv_iload_n hx hb d_Kinds_load_53 rfl (lv_at hl 2 rfl) ?_
    obtain ⟨hg54, h⟩ := of_guard h
    refine al_X_2 C hI (f := σ.2 2) rfl hg54 d_Kinds_load_54 ?_
    exact j_Kinds_load_J55 C hr h (lv_sub hl [1, 2, 3, 4, 0] rfl) hI
  · replace h := of_pos hc h
    refine lv_iconst (v := 0) hx hb d_Kinds_load_45 (by decide) ?_
    refine lv_goto (tgt := 55) hx hb d_Kinds_load_46 (by decide) ?_
    exact j_Kinds_load_J55 C hr h (lv_sub hl [1, 2, 3, 4, 0] rfl) hI
set_option maxHeartbeats 4000000 in
set_option maxRecDepth 100000 in
theorem j_Kinds_load_J23 {l : Launch} {dC : Nat → ClassId} {dI : Nat → Nat → Nat} {a : Nat → Nat} {cI : ClassId} {L : Nat} {tt : Nat → Nat} {pr : Program} {e : Env} {s : State} {m : MethodId} {args : Array Value} {below : List Frame} {meth : Method} {c : Code} {A : Nat → Prop} {ls : Array Slot} {H : Heap} {locs : List Loc} {σ : St} {x1 x2 x3 : Int32} {q : Int32 × St} (C : Cx (dC, dI) clA (tyX cI) (SXx tt) pr s m args meth c b_Kinds_load 8 y_Kinds_load.cls A) (hr : meth.sig.returnType = (some .int)) (h : fKinds_load_J23 L σ x1 x2 x3 = some q) (hl : lv_has ls 8 [(0, .ref (a 1)), (1, .int x1), (2, .int x2), (3, .int x3)]) (hI : Wi (dC, dI) clA (wX a cI L σ) s A H locs)  : W pr l e rm_Kinds_load s m args below meth c H locs 0 0 (MQ below (rb_Qi (dC, dI) clA (tyX cI) (wX a cI L q.2) q.1 A) args s 0 0 A) (F0 m 23 ls []) := by
  have hx := C.1
  have hb := C.2.1
  unfold fKinds_load_J23 at h
  refine lv_iload_n hx hb d_Kinds_load_23 rfl (lv_at hl 1 rfl) ?_
  refine lv_iconst (v := (-1)) hx hb d_Kinds_load_24 (by decide) ?_
  refine lv_icmp_ne (tgt := 32) hx hb d_Kinds_load_25 (by decide) (fun hc => ?_) (fun hc => ?_)
  · replace h := of_neg hc h
    refine lv_aload_n hx hb d_Kinds_load_32 rfl (lv_at hl 0 rfl) ?_
    refine gf_Kinds_9 C hI d_Kinds_load_33 ?_
    refine lv_iload_n hx hb d_Kinds_load_36 rfl (lv_at hl 1 rfl) ?_
    obtain ⟨hg37, h⟩ := of_guard h
    refine al_X_1 C hI (f := σ.2 1) rfl hg37 d_Kinds_load_37 ?_
    exact j_Kinds_load_J38 C hr h (lv_sub hl [0, 1, 2, 3] rfl) hI
  · replace h := of_pos hc h
    refine lv_iconst (v := 0) hx hb d_Kinds_load_28 (by decide) ?_
    refine lv_goto (tgt := 38) hx hb d_Kinds_load_29 (by decide) ?_
    exact j_Kinds_load_J38 C hr h (lv_sub hl [0, 1, 2, 3] rfl) hI
set_option maxHeartbeats 4000000 in
set_option maxRecDepth 100000 in
theorem c_Kinds_load {l : Launch} {dC : Nat → ClassId} {dI : Nat → Nat → Nat} {a : Nat → Nat} {cI : ClassId} {L : Nat} {tt : Nat → Nat} {σ : St} {x1 x2 x3 : Int32} {q : Int32 × St} (h : fKinds_load L σ x1 x2 x3 = some q) : CI l (dC, dI) clA (tyX cI) (SXx tt) (wX a cI L σ) (wX a cI L q.2) y_Kinds_load b_Kinds_load 8 (some .int) rm_Kinds_load [.ref (a 1), .int x1, .int x2, .int x3] q.1 := by
  refine CI_of (by decide) (Nat.le_of_ble_eq_true rfl) ?_
  intro pr e s m below meth c A ls C hr hl hI
  have hx := C.1
  have hb := C.2.1
  have hl : lv_has ls 8 [(0, .ref (a 1)), (1, .int x1), (2, .int x2), (3, .int x3)] := hl
  unfold fKinds_load at h
  refine lv_aload_n hx hb d_Kinds_load_0 rfl (lv_at hl 0 rfl) ?_
  refine gf_Kinds_21 C hI (v := σ.1 6) rfl d_Kinds_load_1 ?_
  refine lv_iconst (v := 4) hx hb d_Kinds_load_4 (by decide) ?_
  refine lv_icmp_eq (tgt := 21) hx hb d_Kinds_load_5 (by decide) (fun hc => ?_) (fun hc => ?_)
  · replace h := of_pos hc h
    refine lv_iconst (v := (-1)) hx hb d_Kinds_load_21 (by decide) ?_
    replace h := Option.some.inj h
    subst h
    exact rb_retI C hr hI d_Kinds_load_22
  · replace h := of_neg hc h
    refine lv_iload_n hx hb d_Kinds_load_8 rfl (lv_at hl 1 rfl) ?_
    refine lv_iconst (v := (-1)) hx hb d_Kinds_load_9 (by decide) ?_
    refine lv_icmp_eq (tgt := 23) hx hb d_Kinds_load_10 (by decide) (fun hc => ?_) (fun hc => ?_)
    · replace h := of_pos hc h
      exact j_Kinds_load_J23 C hr h (lv_sub hl [0, 1, 2, 3] rfl) hI
    · replace h := of_neg hc h
      refine lv_aload_n hx hb d_Kinds_load_13 rfl (lv_at hl 0 rfl) ?_
      refine lv_iload_n hx hb d_Kinds_load_14 rfl (lv_at hl 1 rfl) ?_
      obtain ⟨p15, hp15, h⟩ := of_bind h
      refine rb_callI sxok C (c_Kinds_has hp15) cw_Kinds_25 ⟨Nat.le_of_ble_eq_true rfl, Nat.le_of_ble_eq_true rfl⟩ ⟨rfl, rfl⟩ (q0 := 1) (ci := 1) rfl rfl hI ⟨Nat.zero_le _, Nat.zero_le _⟩ (As := [.int x1]) rfl hl.1 (rest := []) (Nat.le_of_ble_eq_true rfl) rfl d_Kinds_load_15 (fun H locs hI => ?_)
      refine lv_if_ne (tgt := 23) hx hb d_Kinds_load_18 (by decide) (fun hc => ?_) (fun hc => ?_)
      · replace h := of_neg hc h
        exact j_Kinds_load_J23 C hr h (lv_sub hl [0, 1, 2, 3] rfl) hI
      · replace h := of_pos hc h
        refine lv_iconst (v := (-1)) hx hb d_Kinds_load_21 (by decide) ?_
        replace h := Option.some.inj h
        subst h
        exact rb_retI C hr hI d_Kinds_load_22
theorem d_Kinds_headOf_0 : decode b_Kinds_headOf 0 = .ok (.iload_n 1, 1) := by decide +kernel
theorem d_Kinds_headOf_1 : decode b_Kinds_headOf 1 = .ok (.aload_n 0, 1) := by decide +kernel
theorem d_Kinds_headOf_2 : decode b_Kinds_headOf 2 = .ok (.getfield 9, 3) := by decide +kernel
theorem d_Kinds_headOf_5 : decode b_Kinds_headOf 5 = .ok (.iload_n 1, 1) := by decide +kernel
theorem d_Kinds_headOf_6 : decode b_Kinds_headOf 6 = .ok (.iaload, 1) := by decide +kernel
theorem d_Kinds_headOf_7 : decode b_Kinds_headOf 7 = .ok (.aload_n 0, 1) := by decide +kernel
theorem d_Kinds_headOf_8 : decode b_Kinds_headOf 8 = .ok (.getfield 15, 3) := by decide +kernel
theorem d_Kinds_headOf_11 : decode b_Kinds_headOf 11 = .ok (.iload_n 1, 1) := by decide +kernel
theorem d_Kinds_headOf_12 : decode b_Kinds_headOf 12 = .ok (.iaload, 1) := by decide +kernel
theorem d_Kinds_headOf_13 : decode b_Kinds_headOf 13 = .ok (.invokestatic 37, 3) := by decide +kernel
theorem d_Kinds_headOf_16 : decode b_Kinds_headOf 16 = .ok (.ireturn, 1) := by decide +kernel
abbrev rm_Kinds_headOf : Room := { frames := 1, cells := 0, slots := 0, locals := 22 }
set_option maxHeartbeats 4000000 in
set_option maxRecDepth 100000 in
theorem c_Kinds_headOf {l : Launch} {dC : Nat → ClassId} {dI : Nat → Nat → Nat} {a : Nat → Nat} {cI : ClassId} {L : Nat} {tt : Nat → Nat} {σ : St} {x1 : Int32} {q : Int32 × St} (h : fKinds_headOf L σ x1 = some q) : CI l (dC, dI) clA (tyX cI) (SXx tt) (wX a cI L σ) (wX a cI L q.2) y_Kinds_headOf b_Kinds_headOf 2 (some .int) rm_Kinds_headOf [.ref (a 1), .int x1] q.1 := by
  refine CI_of (by decide) (Nat.le_of_ble_eq_true rfl) ?_
  intro pr e s m below meth c A ls C hr hl hI
  have hx := C.1
  have hb := C.2.1
  have hl : lv_has ls 2 [(0, .ref (a 1)), (1, .int x1)] := hl
  unfold fKinds_headOf at h
  refine lv_iload_n hx hb d_Kinds_headOf_0 rfl (lv_at hl 1 rfl) ?_
  refine lv_aload_n hx hb d_Kinds_headOf_1 rfl (lv_at hl 0 rfl) ?_
  refine gf_Kinds_9 C hI d_Kinds_headOf_2 ?_
  refine lv_iload_n hx hb d_Kinds_headOf_5 rfl (lv_at hl 1 rfl) ?_
  obtain ⟨hg6, h⟩ := of_guard h
  refine al_X_1 C hI (f := σ.2 1) rfl hg6 d_Kinds_headOf_6 ?_
  refine lv_aload_n hx hb d_Kinds_headOf_7 rfl (lv_at hl 0 rfl) ?_
  refine gf_Kinds_15 C hI d_Kinds_headOf_8 ?_
  refine lv_iload_n hx hb d_Kinds_headOf_11 rfl (lv_at hl 1 rfl) ?_
  obtain ⟨hg12, h⟩ := of_guard h
  refine al_X_2 C hI (f := σ.2 2) rfl hg12 d_Kinds_headOf_12 ?_
  obtain ⟨p13, hp13, h⟩ := of_bind h
  refine rb_callSI sxok C (c_Room_headOf hp13) cw_Kinds_37 ⟨Nat.le_of_ble_eq_true rfl, Nat.le_of_ble_eq_true rfl⟩ ⟨rfl, rfl⟩ hI ⟨Nat.zero_le _, Nat.zero_le _⟩ (As := [.int x1, .int ((σ.2 1) x1.toNatClampNeg), .int ((σ.2 2) x1.toNatClampNeg)]) rfl hl.1 (rest := []) (Nat.le_of_ble_eq_true rfl) rfl d_Kinds_headOf_13 (fun H locs hI => ?_)
  replace h := Option.some.inj h
  subst h
  exact rb_retI C hr hI d_Kinds_headOf_16
theorem d_Meths_isFinished_0 : decode b_Meths_isFinished 0 = .ok (.iload_n 1, 1) := by decide +kernel
theorem d_Meths_isFinished_1 : decode b_Meths_isFinished 1 = .ok (.ifCond .lt 15, 3) := by decide +kernel
theorem d_Meths_isFinished_4 : decode b_Meths_isFinished 4 = .ok (.iload_n 1, 1) := by decide +kernel
theorem d_Meths_isFinished_5 : decode b_Meths_isFinished 5 = .ok (.aload_n 0, 1) := by decide +kernel
theorem d_Meths_isFinished_6 : decode b_Meths_isFinished 6 = .ok (.getfield 30, 3) := by decide +kernel
theorem d_Meths_isFinished_9 : decode b_Meths_isFinished 9 = .ok (.if_icmp .ge 7, 3) := by decide +kernel
theorem d_Meths_isFinished_12 : decode b_Meths_isFinished 12 = .ok (.iconst 1, 1) := by decide +kernel
theorem d_Meths_isFinished_13 : decode b_Meths_isFinished 13 = .ok (.goto 4, 3) := by decide +kernel
theorem d_Meths_isFinished_16 : decode b_Meths_isFinished 16 = .ok (.iconst 0, 1) := by decide +kernel
theorem d_Meths_isFinished_17 : decode b_Meths_isFinished 17 = .ok (.ireturn, 1) := by decide +kernel
abbrev rm_Meths_isFinished : Room := { frames := 0, cells := 0, slots := 0, locals := 0 }
set_option maxHeartbeats 4000000 in
set_option maxRecDepth 100000 in
theorem c_Meths_isFinished {l : Launch} {dC : Nat → ClassId} {dI : Nat → Nat → Nat} {a : Nat → Nat} {cI : ClassId} {L : Nat} {tt : Nat → Nat} {σ : St} {x1 : Int32} {q : Int32 × St} (h : fMeths_isFinished L σ x1 = some q) : CI l (dC, dI) clA (tyX cI) (SXx tt) (wX a cI L σ) (wX a cI L q.2) y_Meths_isFinished b_Meths_isFinished 2 (some .boolean) rm_Meths_isFinished [.ref (a 2), .int x1] q.1 := by
  refine CI_of (by decide) (Nat.le_of_ble_eq_true rfl) ?_
  intro pr e s m below meth c A ls C hr hl hI
  have hx := C.1
  have hb := C.2.1
  have hl : lv_has ls 2 [(0, .ref (a 2)), (1, .int x1)] := hl
  unfold fMeths_isFinished at h
  refine lv_iload_n hx hb d_Meths_isFinished_0 rfl (lv_at hl 1 rfl) ?_
  refine lv_if_lt (tgt := 16) hx hb d_Meths_isFinished_1 (by decide) (fun hc => ?_) (fun hc => ?_)
  · replace h := of_pos hc h
    refine lv_iconst (v := 0) hx hb d_Meths_isFinished_16 (by decide) ?_
    replace h := Option.some.inj h
    subst h
    exact rb_retZ C hr (Or.inl rfl) hI d_Meths_isFinished_17
  · replace h := of_neg hc h
    refine lv_iload_n hx hb d_Meths_isFinished_4 rfl (lv_at hl 1 rfl) ?_
    refine lv_aload_n hx hb d_Meths_isFinished_5 rfl (lv_at hl 0 rfl) ?_
    refine gf_Meths_30 C hI (v := σ.1 7) rfl d_Meths_isFinished_6 ?_
    refine lv_icmp_ge (tgt := 16) hx hb d_Meths_isFinished_9 (by decide) (fun hc => ?_) (fun hc => ?_)
    · replace h := of_pos hc h
      refine lv_iconst (v := 0) hx hb d_Meths_isFinished_16 (by decide) ?_
      replace h := Option.some.inj h
      subst h
      exact rb_retZ C hr (Or.inl rfl) hI d_Meths_isFinished_17
    · replace h := of_neg hc h
      refine lv_iconst (v := 1) hx hb d_Meths_isFinished_12 (by decide) ?_
      refine lv_goto (tgt := 17) hx hb d_Meths_isFinished_13 (by decide) ?_
      replace h := Option.some.inj h
      subst h
      exact rb_retZ C hr (Or.inr rfl) hI d_Meths_isFinished_17
theorem d_Meths_isOpenOneFull_0 : decode b_Meths_isOpenOneFull 0 = .ok (.aload_n 0, 1) := by decide +kernel
theorem d_Meths_isOpenOneFull_1 : decode b_Meths_isOpenOneFull 1 = .ok (.getfield 15, 3) := by decide +kernel
theorem d_Meths_isOpenOneFull_4 : decode b_Meths_isOpenOneFull 4 = .ok (.aload_n 0, 1) := by decide +kernel
theorem d_Meths_isOpenOneFull_5 : decode b_Meths_isOpenOneFull 5 = .ok (.getfield 30, 3) := by decide +kernel
theorem d_Meths_isOpenOneFull_8 : decode b_Meths_isOpenOneFull 8 = .ok (.iaload, 1) := by decide +kernel
theorem d_Meths_isOpenOneFull_9 : decode b_Meths_isOpenOneFull 9 = .ok (.bipush 12, 2) := by decide +kernel
theorem d_Meths_isOpenOneFull_11 : decode b_Meths_isOpenOneFull 11 = .ok (.if_icmp .ne 7, 3) := by decide +kernel
theorem d_Meths_isOpenOneFull_14 : decode b_Meths_isOpenOneFull 14 = .ok (.iconst 1, 1) := by decide +kernel
theorem d_Meths_isOpenOneFull_15 : decode b_Meths_isOpenOneFull 15 = .ok (.goto 4, 3) := by decide +kernel
theorem d_Meths_isOpenOneFull_18 : decode b_Meths_isOpenOneFull 18 = .ok (.iconst 0, 1) := by decide +kernel
theorem d_Meths_isOpenOneFull_19 : decode b_Meths_isOpenOneFull 19 = .ok (.ireturn, 1) := by decide +kernel
abbrev rm_Meths_isOpenOneFull : Room := { frames := 0, cells := 0, slots := 0, locals := 0 }
set_option maxHeartbeats 4000000 in
set_option maxRecDepth 100000 in
theorem c_Meths_isOpenOneFull {l : Launch} {dC : Nat → ClassId} {dI : Nat → Nat → Nat} {a : Nat → Nat} {cI : ClassId} {L : Nat} {tt : Nat → Nat} {σ : St} {q : Int32 × St} (h : fMeths_isOpenOneFull L σ = some q) : CI l (dC, dI) clA (tyX cI) (SXx tt) (wX a cI L σ) (wX a cI L q.2) y_Meths_isOpenOneFull b_Meths_isOpenOneFull 1 (some .boolean) rm_Meths_isOpenOneFull [.ref (a 2)] q.1 := by
  refine CI_of (by decide) (Nat.le_of_ble_eq_true rfl) ?_
  intro pr e s m below meth c A ls C hr hl hI
  have hx := C.1
  have hb := C.2.1
  have hl : lv_has ls 1 [(0, .ref (a 2))] := hl
  unfold fMeths_isOpenOneFull at h
  refine lv_aload_n hx hb d_Meths_isOpenOneFull_0 rfl (lv_at hl 0 rfl) ?_
  refine gf_Meths_15 C hI d_Meths_isOpenOneFull_1 ?_
  refine lv_aload_n hx hb d_Meths_isOpenOneFull_4 rfl (lv_at hl 0 rfl) ?_
  refine gf_Meths_30 C hI (v := σ.1 7) rfl d_Meths_isOpenOneFull_5 ?_
  obtain ⟨hg8, h⟩ := of_guard h
  refine al_X_5 C hI (f := σ.2 5) rfl hg8 d_Meths_isOpenOneFull_8 ?_
  refine lv_bipush (v := 12) hx hb d_Meths_isOpenOneFull_9 (by decide) ?_
  refine lv_icmp_ne (tgt := 18) hx hb d_Meths_isOpenOneFull_11 (by decide) (fun hc => ?_) (fun hc => ?_)
  · replace h := of_neg hc h
    refine lv_iconst (v := 0) hx hb d_Meths_isOpenOneFull_18 (by decide) ?_
    replace h := Option.some.inj h
    subst h
    exact rb_retZ C hr (Or.inl rfl) hI d_Meths_isOpenOneFull_19
  · replace h := of_pos hc h
    refine lv_iconst (v := 1) hx hb d_Meths_isOpenOneFull_14 (by decide) ?_
    refine lv_goto (tgt := 19) hx hb d_Meths_isOpenOneFull_15 (by decide) ?_
    replace h := Option.some.inj h
    subst h
    exact rb_retZ C hr (Or.inr rfl) hI d_Meths_isOpenOneFull_19
theorem d_Meths_find_0 : decode b_Meths_find 0 = .ok (.iload_n 1, 1) := by decide +kernel
theorem d_Meths_find_1 : decode b_Meths_find 1 = .ok (.bipush 12, 2) := by decide +kernel
theorem d_Meths_find_3 : decode b_Meths_find 3 = .ok (.imul, 1) := by decide +kernel
theorem d_Meths_find_4 : decode b_Meths_find 4 = .ok (.iload_n 2, 1) := by decide +kernel
theorem d_Meths_find_5 : decode b_Meths_find 5 = .ok (.iadd, 1) := by decide +kernel
theorem d_Meths_find_6 : decode b_Meths_find 6 = .ok (.ireturn, 1) := by decide +kernel
abbrev rm_Meths_find : Room := { frames := 0, cells := 0, slots := 0, locals := 0 }
set_option maxHeartbeats 4000000 in
set_option maxRecDepth 100000 in
theorem c_Meths_find {l : Launch} {dC : Nat → ClassId} {dI : Nat → Nat → Nat} {a : Nat → Nat} {cI : ClassId} {L : Nat} {tt : Nat → Nat} {σ : St} {x1 x2 : Int32} {q : Int32 × St} (h : fMeths_find L σ x1 x2 = some q) : CI l (dC, dI) clA (tyX cI) (SXx tt) (wX a cI L σ) (wX a cI L q.2) y_Meths_find b_Meths_find 3 (some .int) rm_Meths_find [.ref (a 2), .int x1, .int x2] q.1 := by
  refine CI_of (by decide) (Nat.le_of_ble_eq_true rfl) ?_
  intro pr e s m below meth c A ls C hr hl hI
  have hx := C.1
  have hb := C.2.1
  have hl : lv_has ls 3 [(0, .ref (a 2)), (1, .int x1), (2, .int x2)] := hl
  unfold fMeths_find at h
  refine lv_iload_n hx hb d_Meths_find_0 rfl (lv_at hl 1 rfl) ?_
  refine lv_bipush (v := 12) hx hb d_Meths_find_1 (by decide) ?_
  refine lv_imul hx hb d_Meths_find_3 ?_
  refine lv_iload_n hx hb d_Meths_find_4 rfl (lv_at hl 2 rfl) ?_
  refine lv_iadd hx hb d_Meths_find_5 ?_
  replace h := Option.some.inj h
  subst h
  exact rb_retI C hr hI d_Meths_find_6
theorem d_Meths_open_0 : decode b_Meths_open 0 = .ok (.aload_n 0, 1) := by decide +kernel
theorem d_Meths_open_1 : decode b_Meths_open 1 = .ok (.getfield 34, 3) := by decide +kernel
theorem d_Meths_open_4 : decode b_Meths_open 4 = .ok (.ifCond .ne 23, 3) := by decide +kernel
theorem d_Meths_open_7 : decode b_Meths_open 7 = .ok (.aload_n 0, 1) := by decide +kernel
theorem d_Meths_open_8 : decode b_Meths_open 8 = .ok (.getfield 30, 3) := by decide +kernel
theorem d_Meths_open_11 : decode b_Meths_open 11 = .ok (.bipush 6, 2) := by decide +kernel
theorem d_Meths_open_13 : decode b_Meths_open 13 = .ok (.if_icmp .eq 14, 3) := by decide +kernel
theorem d_Meths_open_16 : decode b_Meths_open 16 = .ok (.iload_n 1, 1) := by decide +kernel
theorem d_Meths_open_17 : decode b_Meths_open 17 = .ok (.iconst (-1), 1) := by decide +kernel
theorem d_Meths_open_18 : decode b_Meths_open 18 = .ok (.if_icmp .lt 9, 3) := by decide +kernel
theorem d_Meths_open_21 : decode b_Meths_open 21 = .ok (.iload_n 1, 1) := by decide +kernel
theorem d_Meths_open_22 : decode b_Meths_open 22 = .ok (.bipush 12, 2) := by decide +kernel
theorem d_Meths_open_24 : decode b_Meths_open 24 = .ok (.if_icmp .lt 5, 3) := by decide +kernel
theorem d_Meths_open_27 : decode b_Meths_open 27 = .ok (.iconst (-1), 1) := by decide +kernel
theorem d_Meths_open_28 : decode b_Meths_open 28 = .ok (.ireturn, 1) := by decide +kernel
theorem d_Meths_open_29 : decode b_Meths_open 29 = .ok (.aload_n 0, 1) := by decide +kernel
theorem d_Meths_open_30 : decode b_Meths_open 30 = .ok (.iconst 1, 1) := by decide +kernel
theorem d_Meths_open_31 : decode b_Meths_open 31 = .ok (.putfield 34, 3) := by decide +kernel
theorem d_Meths_open_34 : decode b_Meths_open 34 = .ok (.aload_n 0, 1) := by decide +kernel
theorem d_Meths_open_35 : decode b_Meths_open 35 = .ok (.getfield 9, 3) := by decide +kernel
theorem d_Meths_open_38 : decode b_Meths_open 38 = .ok (.aload_n 0, 1) := by decide +kernel
theorem d_Meths_open_39 : decode b_Meths_open 39 = .ok (.getfield 30, 3) := by decide +kernel
theorem d_Meths_open_42 : decode b_Meths_open 42 = .ok (.iload_n 1, 1) := by decide +kernel
theorem d_Meths_open_43 : decode b_Meths_open 43 = .ok (.iastore, 1) := by decide +kernel
theorem d_Meths_open_44 : decode b_Meths_open 44 = .ok (.aload_n 0, 1) := by decide +kernel
theorem d_Meths_open_45 : decode b_Meths_open 45 = .ok (.getfield 15, 3) := by decide +kernel
theorem d_Meths_open_48 : decode b_Meths_open 48 = .ok (.aload_n 0, 1) := by decide +kernel
theorem d_Meths_open_49 : decode b_Meths_open 49 = .ok (.getfield 30, 3) := by decide +kernel
theorem d_Meths_open_52 : decode b_Meths_open 52 = .ok (.iconst 0, 1) := by decide +kernel
theorem d_Meths_open_53 : decode b_Meths_open 53 = .ok (.iastore, 1) := by decide +kernel
theorem d_Meths_open_54 : decode b_Meths_open 54 = .ok (.aload_n 0, 1) := by decide +kernel
theorem d_Meths_open_55 : decode b_Meths_open 55 = .ok (.getfield 30, 3) := by decide +kernel
theorem d_Meths_open_58 : decode b_Meths_open 58 = .ok (.ireturn, 1) := by decide +kernel
abbrev rm_Meths_open : Room := { frames := 0, cells := 0, slots := 0, locals := 0 }
set_option maxHeartbeats 4000000 in
set_option maxRecDepth 100000 in
theorem c_Meths_open {l : Launch} {dC : Nat → ClassId} {dI : Nat → Nat → Nat} {a : Nat → Nat} {cI : ClassId} {L : Nat} {tt : Nat → Nat} {σ : St} {x1 : Int32} {q : Int32 × St} (h : fMeths_open L σ x1 = some q) : CI l (dC, dI) clA (tyX cI) (SXx tt) (wX a cI L σ) (wX a cI L q.2) y_Meths_open b_Meths_open 2 (some .int) rm_Meths_open [.ref (a 2), .int x1] q.1 := by
  refine CI_of (by decide) (Nat.le_of_ble_eq_true rfl) ?_
  intro pr e s m below meth c A ls C hr hl hI
  have hx := C.1
  have hb := C.2.1
  have hl : lv_has ls 2 [(0, .ref (a 2)), (1, .int x1)] := hl
  unfold fMeths_open at h
  refine lv_aload_n hx hb d_Meths_open_0 rfl (lv_at hl 0 rfl) ?_
  refine gf_Meths_34 C hI (v := σ.1 8) rfl d_Meths_open_1 ?_
  refine lv_if_ne (tgt := 27) hx hb d_Meths_open_4 (by decide) (fun hc => ?_) (fun hc => ?_)
  · replace h := of_neg hc h
    refine lv_iconst (v := (-1)) hx hb d_Meths_open_27 (by decide) ?_
    replace h := Option.some.inj h
    subst h
    exact rb_retI C hr hI d_Meths_open_28
  · replace h := of_pos hc h
    refine lv_aload_n hx hb d_Meths_open_7 rfl (lv_at hl 0 rfl) ?_
    refine gf_Meths_30 C hI (v := σ.1 7) rfl d_Meths_open_8 ?_
    refine lv_bipush (v := 6) hx hb d_Meths_open_11 (by decide) ?_
    refine lv_icmp_eq (tgt := 27) hx hb d_Meths_open_13 (by decide) (fun hc => ?_) (fun hc => ?_)
    · replace h := of_pos hc h
      refine lv_iconst (v := (-1)) hx hb d_Meths_open_27 (by decide) ?_
      replace h := Option.some.inj h
      subst h
      exact rb_retI C hr hI d_Meths_open_28
    · replace h := of_neg hc h
      refine lv_iload_n hx hb d_Meths_open_16 rfl (lv_at hl 1 rfl) ?_
      refine lv_iconst (v := (-1)) hx hb d_Meths_open_17 (by decide) ?_
      refine lv_icmp_lt (tgt := 27) hx hb d_Meths_open_18 (by decide) (fun hc => ?_) (fun hc => ?_)
      · replace h := of_pos hc h
        refine lv_iconst (v := (-1)) hx hb d_Meths_open_27 (by decide) ?_
        replace h := Option.some.inj h
        subst h
        exact rb_retI C hr hI d_Meths_open_28
      · replace h := of_neg hc h
        refine lv_iload_n hx hb d_Meths_open_21 rfl (lv_at hl 1 rfl) ?_
        refine lv_bipush (v := 12) hx hb d_Meths_open_22 (by decide) ?_
        refine lv_icmp_lt (tgt := 29) hx hb d_Meths_open_24 (by decide) (fun hc => ?_) (fun hc => ?_)
        · replace h := of_pos hc h
          refine lv_aload_n hx hb d_Meths_open_29 rfl (lv_at hl 0 rfl) ?_
          refine lv_iconst (v := 1) hx hb d_Meths_open_30 (by decide) ?_
          refine pf_Meths_34 C hI (σ' := (upd σ.1 8 1, σ.2)) rfl (by decide) d_Meths_open_31 (fun H locs hI => ?_)
          refine lv_aload_n hx hb d_Meths_open_34 rfl (lv_at hl 0 rfl) ?_
          refine gf_Meths_9 C hI d_Meths_open_35 ?_
          refine lv_aload_n hx hb d_Meths_open_38 rfl (lv_at hl 0 rfl) ?_
          refine gf_Meths_30 C hI (v := σ.1 7) rfl d_Meths_open_39 ?_
          refine lv_iload_n hx hb d_Meths_open_42 rfl (lv_at hl 1 rfl) ?_
          obtain ⟨hg43, h⟩ := of_guard h
          refine as_X_4 C hI (σ' := (upd σ.1 8 1, va_up σ.2 4 (upd (σ.2 4) (σ.1 7).toNatClampNeg x1))) rfl hg43 d_Meths_open_43 (fun H locs hI => ?_)
          refine lv_aload_n hx hb d_Meths_open_44 rfl (lv_at hl 0 rfl) ?_
          refine gf_Meths_15 C hI d_Meths_open_45 ?_
          refine lv_aload_n hx hb d_Meths_open_48 rfl (lv_at hl 0 rfl) ?_
          refine gf_Meths_30 C hI (v := σ.1 7) rfl d_Meths_open_49 ?_
          refine lv_iconst (v := 0) hx hb d_Meths_open_52 (by decide) ?_
          obtain ⟨hg53, h⟩ := of_guard h
          refine as_X_5 C hI (σ' := (upd σ.1 8 1, va_up (va_up σ.2 4 (upd (σ.2 4) (σ.1 7).toNatClampNeg x1)) 5 (upd (σ.2 5) (σ.1 7).toNatClampNeg 0))) rfl hg53 d_Meths_open_53 (fun H locs hI => ?_)
          refine lv_aload_n hx hb d_Meths_open_54 rfl (lv_at hl 0 rfl) ?_
          refine gf_Meths_30 C hI (v := σ.1 7) rfl d_Meths_open_55 ?_
          replace h := Option.some.inj h
          subst h
          exact rb_retI C hr hI d_Meths_open_58
        · replace h := of_neg hc h
          refine lv_iconst (v := (-1)) hx hb d_Meths_open_27 (by decide) ?_
          replace h := Option.some.inj h
          subst h
          exact rb_retI C hr hI d_Meths_open_28
theorem d_Meths_add_0 : decode b_Meths_add 0 = .ok (.aload_n 0, 1) := by decide +kernel
theorem d_Meths_add_1 : decode b_Meths_add 1 = .ok (.aload_n 0, 1) := by decide +kernel
theorem d_Meths_add_2 : decode b_Meths_add 2 = .ok (.getfield 30, 3) := by decide +kernel
theorem d_Meths_add_5 : decode b_Meths_add 5 = .ok (.aload_n 0, 1) := by decide +kernel
theorem d_Meths_add_6 : decode b_Meths_add 6 = .ok (.getfield 15, 3) := by decide +kernel
theorem d_Meths_add_9 : decode b_Meths_add 9 = .ok (.aload_n 0, 1) := by decide +kernel
theorem d_Meths_add_10 : decode b_Meths_add 10 = .ok (.getfield 30, 3) := by decide +kernel
theorem d_Meths_add_13 : decode b_Meths_add 13 = .ok (.iaload, 1) := by decide +kernel
theorem d_Meths_add_14 : decode b_Meths_add 14 = .ok (.invokevirtual 38, 3) := by decide +kernel
theorem d_Meths_add_17 : decode b_Meths_add 17 = .ok (.istore 5, 2) := by decide +kernel
theorem d_Meths_add_19 : decode b_Meths_add 19 = .ok (.aload_n 0, 1) := by decide +kernel
theorem d_Meths_add_20 : decode b_Meths_add 20 = .ok (.getfield 18, 3) := by decide +kernel
theorem d_Meths_add_23 : decode b_Meths_add 23 = .ok (.iload 5, 2) := by decide +kernel
theorem d_Meths_add_25 : decode b_Meths_add 25 = .ok (.iload_n 1, 1) := by decide +kernel
theorem d_Meths_add_26 : decode b_Meths_add 26 = .ok (.iastore, 1) := by decide +kernel
theorem d_Meths_add_27 : decode b_Meths_add 27 = .ok (.aload_n 0, 1) := by decide +kernel
theorem d_Meths_add_28 : decode b_Meths_add 28 = .ok (.getfield 21, 3) := by decide +kernel
theorem d_Meths_add_31 : decode b_Meths_add 31 = .ok (.iload 5, 2) := by decide +kernel
theorem d_Meths_add_33 : decode b_Meths_add 33 = .ok (.iload_n 2, 1) := by decide +kernel
theorem d_Meths_add_34 : decode b_Meths_add 34 = .ok (.iastore, 1) := by decide +kernel
theorem d_Meths_add_35 : decode b_Meths_add 35 = .ok (.aload_n 0, 1) := by decide +kernel
theorem d_Meths_add_36 : decode b_Meths_add 36 = .ok (.getfield 24, 3) := by decide +kernel
theorem d_Meths_add_39 : decode b_Meths_add 39 = .ok (.iload 5, 2) := by decide +kernel
theorem d_Meths_add_41 : decode b_Meths_add 41 = .ok (.iload_n 3, 1) := by decide +kernel
theorem d_Meths_add_42 : decode b_Meths_add 42 = .ok (.iastore, 1) := by decide +kernel
theorem d_Meths_add_43 : decode b_Meths_add 43 = .ok (.aload_n 0, 1) := by decide +kernel
theorem d_Meths_add_44 : decode b_Meths_add 44 = .ok (.getfield 27, 3) := by decide +kernel
theorem d_Meths_add_47 : decode b_Meths_add 47 = .ok (.iload 5, 2) := by decide +kernel
theorem d_Meths_add_49 : decode b_Meths_add 49 = .ok (.iload 4, 2) := by decide +kernel
theorem d_Meths_add_51 : decode b_Meths_add 51 = .ok (.iastore, 1) := by decide +kernel
theorem d_Meths_add_52 : decode b_Meths_add 52 = .ok (.aload_n 0, 1) := by decide +kernel
theorem d_Meths_add_53 : decode b_Meths_add 53 = .ok (.getfield 15, 3) := by decide +kernel
theorem d_Meths_add_56 : decode b_Meths_add 56 = .ok (.aload_n 0, 1) := by decide +kernel
theorem d_Meths_add_57 : decode b_Meths_add 57 = .ok (.getfield 30, 3) := by decide +kernel
theorem d_Meths_add_60 : decode b_Meths_add 60 = .ok (.dup2, 1) := by decide +kernel
theorem d_Meths_add_61 : decode b_Meths_add 61 = .ok (.iaload, 1) := by decide +kernel
theorem d_Meths_add_62 : decode b_Meths_add 62 = .ok (.iconst 1, 1) := by decide +kernel
theorem d_Meths_add_63 : decode b_Meths_add 63 = .ok (.iadd, 1) := by decide +kernel
theorem d_Meths_add_64 : decode b_Meths_add 64 = .ok (.iastore, 1) := by decide +kernel
theorem d_Meths_add_65 : decode b_Meths_add 65 = .ok (.return_, 1) := by decide +kernel
abbrev rm_Meths_add : Room := { frames := 1, cells := 0, slots := 0, locals := 22 }
set_option maxHeartbeats 4000000 in
set_option maxRecDepth 100000 in
theorem c_Meths_add {l : Launch} {dC : Nat → ClassId} {dI : Nat → Nat → Nat} {a : Nat → Nat} {cI : ClassId} {L : Nat} {tt : Nat → Nat} {σ : St} {x1 x2 x3 x4 : Int32} {q : St} (h : fMeths_add L σ x1 x2 x3 x4 = some q) : CV l (dC, dI) clA (tyX cI) (SXx tt) (wX a cI L σ) (wX a cI L q) y_Meths_add b_Meths_add 6 none rm_Meths_add [.ref (a 2), .int x1, .int x2, .int x3, .int x4] := by
  refine CV_of (by decide) (Nat.le_of_ble_eq_true rfl) ?_
  intro pr e s m below meth c A ls C hr hl hI
  have hx := C.1
  have hb := C.2.1
  have hl : lv_has ls 6 [(0, .ref (a 2)), (1, .int x1), (2, .int x2), (3, .int x3), (4, .int x4)] := hl
  unfold fMeths_add at h
  refine lv_aload_n hx hb d_Meths_add_0 rfl (lv_at hl 0 rfl) ?_
  refine lv_aload_n hx hb d_Meths_add_1 rfl (lv_at hl 0 rfl) ?_
  refine gf_Meths_30 C hI (v := σ.1 7) rfl d_Meths_add_2 ?_
  refine lv_aload_n hx hb d_Meths_add_5 rfl (lv_at hl 0 rfl) ?_
  refine gf_Meths_15 C hI d_Meths_add_6 ?_
  refine lv_aload_n hx hb d_Meths_add_9 rfl (lv_at hl 0 rfl) ?_
  refine gf_Meths_30 C hI (v := σ.1 7) rfl d_Meths_add_10 ?_
  obtain ⟨hg13, h⟩ := of_guard h
  refine al_X_5 C hI (f := σ.2 5) rfl hg13 d_Meths_add_13 ?_
  obtain ⟨p14, hp14, h⟩ := of_bind h
  refine rb_callI sxok C (c_Meths_find hp14) cw_Meths_38 ⟨Nat.le_of_ble_eq_true rfl, Nat.le_of_ble_eq_true rfl⟩ ⟨rfl, rfl⟩ (q0 := 2) (ci := 2) rfl rfl hI ⟨Nat.zero_le _, Nat.zero_le _⟩ (As := [.int (σ.1 7), .int ((σ.2 5) (σ.1 7).toNatClampNeg)]) rfl hl.1 (rest := []) (Nat.le_of_ble_eq_true rfl) rfl d_Meths_add_14 (fun H locs hI => ?_)
  refine lv_istore (lv' := [(5, .int p14.1), (0, .ref (a 2)), (1, .int x1), (2, .int x2), (3, .int x3), (4, .int x4)]) hx hb d_Meths_add_17 hl (by decide) rfl (fun ls hl => ?_)
  refine lv_aload_n hx hb d_Meths_add_19 rfl (lv_at hl 1 rfl) ?_
  refine gf_Meths_18 C hI d_Meths_add_20 ?_
  refine lv_iload hx hb d_Meths_add_23 (lv_at hl 0 rfl) ?_
  refine lv_iload_n hx hb d_Meths_add_25 rfl (lv_at hl 2 rfl) ?_
  obtain ⟨hg26, h⟩ := of_guard h
  refine as_X_6 C hI (σ' := (p14.2.1, va_up p14.2.2 6 (upd (p14.2.2 6) p14.1.toNatClampNeg x1))) rfl hg26 d_Meths_add_26 (fun H locs hI => ?_)
  refine lv_aload_n hx hb d_Meths_add_27 rfl (lv_at hl 1 rfl) ?_
  refine gf_Meths_21 C hI d_Meths_add_28 ?_
  refine lv_iload hx hb d_Meths_add_31 (lv_at hl 0 rfl) ?_
  refine lv_iload_n hx hb d_Meths_add_33 rfl (lv_at hl 3 rfl) ?_
  obtain ⟨hg34, h⟩ := of_guard h
  refine as_X_7 C hI (σ' := (p14.2.1, va_up (va_up p14.2.2 6 (upd (p14.2.2 6) p14.1.toNatClampNeg x1)) 7 (upd (p14.2.2 7) p14.1.toNatClampNeg x2))) rfl hg34 d_Meths_add_34 (fun H locs hI => ?_)
  refine lv_aload_n hx hb d_Meths_add_35 rfl (lv_at hl 1 rfl) ?_
  refine gf_Meths_24 C hI d_Meths_add_36 ?_
  refine lv_iload hx hb d_Meths_add_39 (lv_at hl 0 rfl) ?_
  refine lv_iload_n hx hb d_Meths_add_41 rfl (lv_at hl 4 rfl) ?_
  obtain ⟨hg42, h⟩ := of_guard h
  refine as_X_8 C hI (σ' := (p14.2.1, va_up (va_up (va_up p14.2.2 6 (upd (p14.2.2 6) p14.1.toNatClampNeg x1)) 7 (upd (p14.2.2 7) p14.1.toNatClampNeg x2)) 8 (upd (p14.2.2 8) p14.1.toNatClampNeg x3))) rfl hg42 d_Meths_add_42 (fun H locs hI => ?_)
  refine lv_aload_n hx hb d_Meths_add_43 rfl (lv_at hl 1 rfl) ?_
  refine gf_Meths_27 C hI d_Meths_add_44 ?_
  refine lv_iload hx hb d_Meths_add_47 (lv_at hl 0 rfl) ?_
  refine lv_iload hx hb d_Meths_add_49 (lv_at hl 5 rfl) ?_
  obtain ⟨hg51, h⟩ := of_guard h
  refine as_X_9 C hI (σ' := (p14.2.1, va_up (va_up (va_up (va_up p14.2.2 6 (upd (p14.2.2 6) p14.1.toNatClampNeg x1)) 7 (upd (p14.2.2 7) p14.1.toNatClampNeg x2)) 8 (upd (p14.2.2 8) p14.1.toNatClampNeg x3)) 9 (upd (p14.2.2 9) p14.1.toNatClampNeg x4))) rfl hg51 d_Meths_add_51 (fun H locs hI => ?_)
  refine lv_aload_n hx hb d_Meths_add_52 rfl (lv_at hl 1 rfl) ?_
  refine gf_Meths_15 C hI d_Meths_add_53 ?_
  refine lv_aload_n hx hb d_Meths_add_56 rfl (lv_at hl 1 rfl) ?_
  refine gf_Meths_30 C hI (v := p14.2.1 7) rfl d_Meths_add_57 ?_
  refine lv_dup2_11 hx hb d_Meths_add_60 rfl rfl ?_
  obtain ⟨hg61, h⟩ := of_guard h
  refine al_X_5 C hI (f := p14.2.2 5) rfl hg61 d_Meths_add_61 ?_
  refine lv_iconst (v := 1) hx hb d_Meths_add_62 (by decide) ?_
  refine lv_iadd hx hb d_Meths_add_63 ?_
  obtain ⟨hg64, h⟩ := of_guard h
  refine as_X_5 C hI (σ' := (p14.2.1, va_up (va_up (va_up (va_up (va_up p14.2.2 6 (upd (p14.2.2 6) p14.1.toNatClampNeg x1)) 7 (upd (p14.2.2 7) p14.1.toNatClampNeg x2)) 8 (upd (p14.2.2 8) p14.1.toNatClampNeg x3)) 9 (upd (p14.2.2 9) p14.1.toNatClampNeg x4)) 5 (upd (p14.2.2 5) (p14.2.1 7).toNatClampNeg (((p14.2.2 5) (p14.2.1 7).toNatClampNeg) + 1)))) rfl hg64 d_Meths_add_64 (fun H locs hI => ?_)
  replace h := Option.some.inj h
  subst h
  exact rb_retV C hr hI d_Meths_add_65
theorem d_Meths_giveUp_0 : decode b_Meths_giveUp 0 = .ok (.aload_n 0, 1) := by decide +kernel
theorem d_Meths_giveUp_1 : decode b_Meths_giveUp 1 = .ok (.getfield 34, 3) := by decide +kernel
theorem d_Meths_giveUp_4 : decode b_Meths_giveUp 4 = .ok (.istore_n 1, 1) := by decide +kernel
theorem d_Meths_giveUp_5 : decode b_Meths_giveUp 5 = .ok (.aload_n 0, 1) := by decide +kernel
theorem d_Meths_giveUp_6 : decode b_Meths_giveUp 6 = .ok (.iconst 0, 1) := by decide +kernel
theorem d_Meths_giveUp_7 : decode b_Meths_giveUp 7 = .ok (.putfield 34, 3) := by decide +kernel
theorem d_Meths_giveUp_10 : decode b_Meths_giveUp 10 = .ok (.iload_n 1, 1) := by decide +kernel
theorem d_Meths_giveUp_11 : decode b_Meths_giveUp 11 = .ok (.ireturn, 1) := by decide +kernel
abbrev rm_Meths_giveUp : Room := { frames := 0, cells := 0, slots := 0, locals := 0 }
set_option maxHeartbeats 4000000 in
set_option maxRecDepth 100000 in
theorem c_Meths_giveUp {l : Launch} {dC : Nat → ClassId} {dI : Nat → Nat → Nat} {a : Nat → Nat} {cI : ClassId} {L : Nat} {tt : Nat → Nat} {σ : St} {q : Int32 × St} (h : fMeths_giveUp L σ = some q) : CI l (dC, dI) clA (tyX cI) (SXx tt) (wX a cI L σ) (wX a cI L q.2) y_Meths_giveUp b_Meths_giveUp 2 (some .boolean) rm_Meths_giveUp [.ref (a 2)] q.1 := by
  refine CI_of (by decide) (Nat.le_of_ble_eq_true rfl) ?_
  intro pr e s m below meth c A ls C hr hl hI
  have hx := C.1
  have hb := C.2.1
  have hl : lv_has ls 2 [(0, .ref (a 2))] := hl
  unfold fMeths_giveUp at h
  refine lv_aload_n hx hb d_Meths_giveUp_0 rfl (lv_at hl 0 rfl) ?_
  refine gf_Meths_34 C hI (v := σ.1 8) rfl d_Meths_giveUp_1 ?_
  refine lv_istore_n (lv' := [(1, .int (σ.1 8)), (0, .ref (a 2))]) hx hb d_Meths_giveUp_4 rfl hl (by decide) rfl (fun ls hl => ?_)
  refine lv_aload_n hx hb d_Meths_giveUp_5 rfl (lv_at hl 1 rfl) ?_
  refine lv_iconst (v := 0) hx hb d_Meths_giveUp_6 (by decide) ?_
  refine pf_Meths_34 C hI (σ' := (upd σ.1 8 0, σ.2)) rfl (by decide) d_Meths_giveUp_7 (fun H locs hI => ?_)
  refine lv_iload_n hx hb d_Meths_giveUp_10 rfl (lv_at hl 0 rfl) ?_
  obtain ⟨hg, h⟩ := of_guard h
  replace h := Option.some.inj h
  subst h
  exact rb_retZ C hr hg hI d_Meths_giveUp_11
theorem d_Meths_endsWell_0 : decode b_Meths_endsWell 0 = .ok (.aload_n 0, 1) := by decide +kernel
theorem d_Meths_endsWell_1 : decode b_Meths_endsWell 1 = .ok (.getfield 15, 3) := by decide +kernel
theorem d_Meths_endsWell_4 : decode b_Meths_endsWell 4 = .ok (.aload_n 0, 1) := by decide +kernel
theorem d_Meths_endsWell_5 : decode b_Meths_endsWell 5 = .ok (.getfield 30, 3) := by decide +kernel
theorem d_Meths_endsWell_8 : decode b_Meths_endsWell 8 = .ok (.iaload, 1) := by decide +kernel
theorem d_Meths_endsWell_9 : decode b_Meths_endsWell 9 = .ok (.istore_n 1, 1) := by decide +kernel
theorem d_Meths_endsWell_10 : decode b_Meths_endsWell 10 = .ok (.iload_n 1, 1) := by decide +kernel
theorem d_Meths_endsWell_11 : decode b_Meths_endsWell 11 = .ok (.ifCond .ne 5, 3) := by decide +kernel
theorem d_Meths_endsWell_14 : decode b_Meths_endsWell 14 = .ok (.iconst 0, 1) := by decide +kernel
theorem d_Meths_endsWell_15 : decode b_Meths_endsWell 15 = .ok (.ireturn, 1) := by decide +kernel
theorem d_Meths_endsWell_16 : decode b_Meths_endsWell 16 = .ok (.aload_n 0, 1) := by decide +kernel
theorem d_Meths_endsWell_17 : decode b_Meths_endsWell 17 = .ok (.getfield 18, 3) := by decide +kernel
theorem d_Meths_endsWell_20 : decode b_Meths_endsWell 20 = .ok (.aload_n 0, 1) := by decide +kernel
theorem d_Meths_endsWell_21 : decode b_Meths_endsWell 21 = .ok (.aload_n 0, 1) := by decide +kernel
theorem d_Meths_endsWell_22 : decode b_Meths_endsWell 22 = .ok (.getfield 30, 3) := by decide +kernel
theorem d_Meths_endsWell_25 : decode b_Meths_endsWell 25 = .ok (.iload_n 1, 1) := by decide +kernel
theorem d_Meths_endsWell_26 : decode b_Meths_endsWell 26 = .ok (.iconst 1, 1) := by decide +kernel
theorem d_Meths_endsWell_27 : decode b_Meths_endsWell 27 = .ok (.isub, 1) := by decide +kernel
theorem d_Meths_endsWell_28 : decode b_Meths_endsWell 28 = .ok (.invokevirtual 38, 3) := by decide +kernel
theorem d_Meths_endsWell_31 : decode b_Meths_endsWell 31 = .ok (.iaload, 1) := by decide +kernel
theorem d_Meths_endsWell_32 : decode b_Meths_endsWell 32 = .ok (.istore_n 2, 1) := by decide +kernel
theorem d_Meths_endsWell_33 : decode b_Meths_endsWell 33 = .ok (.iload_n 2, 1) := by decide +kernel
theorem d_Meths_endsWell_34 : decode b_Meths_endsWell 34 = .ok (.bipush 9, 2) := by decide +kernel
theorem d_Meths_endsWell_36 : decode b_Meths_endsWell 36 = .ok (.if_icmp .eq 15, 3) := by decide +kernel
theorem d_Meths_endsWell_39 : decode b_Meths_endsWell 39 = .ok (.iload_n 2, 1) := by decide +kernel
theorem d_Meths_endsWell_40 : decode b_Meths_endsWell 40 = .ok (.bipush 13, 2) := by decide +kernel
theorem d_Meths_endsWell_42 : decode b_Meths_endsWell 42 = .ok (.if_icmp .eq 9, 3) := by decide +kernel
theorem d_Meths_endsWell_45 : decode b_Meths_endsWell 45 = .ok (.iload_n 2, 1) := by decide +kernel
theorem d_Meths_endsWell_46 : decode b_Meths_endsWell 46 = .ok (.bipush 14, 2) := by decide +kernel
theorem d_Meths_endsWell_48 : decode b_Meths_endsWell 48 = .ok (.if_icmp .ne 7, 3) := by decide +kernel
theorem d_Meths_endsWell_51 : decode b_Meths_endsWell 51 = .ok (.iconst 1, 1) := by decide +kernel
theorem d_Meths_endsWell_52 : decode b_Meths_endsWell 52 = .ok (.goto 4, 3) := by decide +kernel
theorem d_Meths_endsWell_55 : decode b_Meths_endsWell 55 = .ok (.iconst 0, 1) := by decide +kernel
theorem d_Meths_endsWell_56 : decode b_Meths_endsWell 56 = .ok (.ireturn, 1) := by decide +kernel
abbrev rm_Meths_endsWell : Room := { frames := 1, cells := 0, slots := 0, locals := 22 }
set_option maxHeartbeats 4000000 in
set_option maxRecDepth 100000 in
theorem c_Meths_endsWell {l : Launch} {dC : Nat → ClassId} {dI : Nat → Nat → Nat} {a : Nat → Nat} {cI : ClassId} {L : Nat} {tt : Nat → Nat} {σ : St} {q : Int32 × St} (h : fMeths_endsWell L σ = some q) : CI l (dC, dI) clA (tyX cI) (SXx tt) (wX a cI L σ) (wX a cI L q.2) y_Meths_endsWell b_Meths_endsWell 3 (some .boolean) rm_Meths_endsWell [.ref (a 2)] q.1 := by
  refine CI_of (by decide) (Nat.le_of_ble_eq_true rfl) ?_
  intro pr e s m below meth c A ls C hr hl hI
  have hx := C.1
  have hb := C.2.1
  have hl : lv_has ls 3 [(0, .ref (a 2))] := hl
  unfold fMeths_endsWell at h
  refine lv_aload_n hx hb d_Meths_endsWell_0 rfl (lv_at hl 0 rfl) ?_
  refine gf_Meths_15 C hI d_Meths_endsWell_1 ?_
  refine lv_aload_n hx hb d_Meths_endsWell_4 rfl (lv_at hl 0 rfl) ?_
  refine gf_Meths_30 C hI (v := σ.1 7) rfl d_Meths_endsWell_5 ?_
  obtain ⟨hg8, h⟩ := of_guard h
  refine al_X_5 C hI (f := σ.2 5) rfl hg8 d_Meths_endsWell_8 ?_
  refine lv_istore_n (lv' := [(1, .int ((σ.2 5) (σ.1 7).toNatClampNeg)), (0, .ref (a 2))]) hx hb d_Meths_endsWell_9 rfl hl (by decide) rfl (fun ls hl => ?_)
  refine lv_iload_n hx hb d_Meths_endsWell_10 rfl (lv_at hl 0 rfl) ?_
  refine lv_if_ne (tgt := 16) hx hb d_Meths_endsWell_11 (by decide) (fun hc => ?_) (fun hc => ?_)
  · replace h := of_neg hc h
    refine lv_aload_n hx hb d_Meths_endsWell_16 rfl (lv_at hl 1 rfl) ?_
    refine gf_Meths_18 C hI d_Meths_endsWell_17 ?_
    refine lv_aload_n hx hb d_Meths_endsWell_20 rfl (lv_at hl 1 rfl) ?_
    refine lv_aload_n hx hb d_Meths_endsWell_21 rfl (lv_at hl 1 rfl) ?_
    refine gf_Meths_30 C hI (v := σ.1 7) rfl d_Meths_endsWell_22 ?_
    refine lv_iload_n hx hb d_Meths_endsWell_25 rfl (lv_at hl 0 rfl) ?_
    refine lv_iconst (v := 1) hx hb d_Meths_endsWell_26 (by decide) ?_
    refine lv_isub hx hb d_Meths_endsWell_27 ?_
    obtain ⟨p28, hp28, h⟩ := of_bind h
    refine rb_callI sxok C (c_Meths_find hp28) cw_Meths_38 ⟨Nat.le_of_ble_eq_true rfl, Nat.le_of_ble_eq_true rfl⟩ ⟨rfl, rfl⟩ (q0 := 2) (ci := 2) rfl rfl hI ⟨Nat.zero_le _, Nat.zero_le _⟩ (As := [.int (σ.1 7), .int (((σ.2 5) (σ.1 7).toNatClampNeg) - 1)]) rfl hl.1 (rest := [.ref (a 10)]) (Nat.le_of_ble_eq_true rfl) rfl d_Meths_endsWell_28 (fun H locs hI => ?_)
    obtain ⟨hg31, h⟩ := of_guard h
    refine al_X_6 C hI (f := p28.2.2 6) rfl hg31 d_Meths_endsWell_31 ?_
    refine lv_istore_n (lv' := [(2, .int ((p28.2.2 6) p28.1.toNatClampNeg)), (1, .int ((σ.2 5) (σ.1 7).toNatClampNeg)), (0, .ref (a 2))]) hx hb d_Meths_endsWell_32 rfl hl (by decide) rfl (fun ls hl => ?_)
    refine lv_iload_n hx hb d_Meths_endsWell_33 rfl (lv_at hl 0 rfl) ?_
    refine lv_bipush (v := 9) hx hb d_Meths_endsWell_34 (by decide) ?_
    refine lv_icmp_eq (tgt := 51) hx hb d_Meths_endsWell_36 (by decide) (fun hc => ?_) (fun hc => ?_)
    · replace h := of_pos hc h
      refine lv_iconst (v := 1) hx hb d_Meths_endsWell_51 (by decide) ?_
      refine lv_goto (tgt := 56) hx hb d_Meths_endsWell_52 (by decide) ?_
      replace h := Option.some.inj h
      subst h
      exact rb_retZ C hr (Or.inr rfl) hI d_Meths_endsWell_56
    · replace h := of_neg hc h
      refine lv_iload_n hx hb d_Meths_endsWell_39 rfl (lv_at hl 0 rfl) ?_
      refine lv_bipush (v := 13) hx hb d_Meths_endsWell_40 (by decide) ?_
      refine lv_icmp_eq (tgt := 51) hx hb d_Meths_endsWell_42 (by decide) (fun hc => ?_) (fun hc => ?_)
      · replace h := of_pos hc h
        refine lv_iconst (v := 1) hx hb d_Meths_endsWell_51 (by decide) ?_
        refine lv_goto (tgt := 56) hx hb d_Meths_endsWell_52 (by decide) ?_
        replace h := Option.some.inj h
        subst h
        exact rb_retZ C hr (Or.inr rfl) hI d_Meths_endsWell_56
      · replace h := of_neg hc h
        refine lv_iload_n hx hb d_Meths_endsWell_45 rfl (lv_at hl 0 rfl) ?_
        refine lv_bipush (v := 14) hx hb d_Meths_endsWell_46 (by decide) ?_
        refine lv_icmp_ne (tgt := 55) hx hb d_Meths_endsWell_48 (by decide) (fun hc => ?_) (fun hc => ?_)
        · replace h := of_neg hc h
          refine lv_iconst (v := 0) hx hb d_Meths_endsWell_55 (by decide) ?_
          replace h := Option.some.inj h
          subst h
          exact rb_retZ C hr (Or.inl rfl) hI d_Meths_endsWell_56
        · replace h := of_pos hc h
          refine lv_iconst (v := 1) hx hb d_Meths_endsWell_51 (by decide) ?_
          refine lv_goto (tgt := 56) hx hb d_Meths_endsWell_52 (by decide) ?_
          replace h := Option.some.inj h
          subst h
          exact rb_retZ C hr (Or.inr rfl) hI d_Meths_endsWell_56
  · replace h := of_pos hc h
    refine lv_iconst (v := 0) hx hb d_Meths_endsWell_14 (by decide) ?_
    replace h := Option.some.inj h
    subst h
    exact rb_retZ C hr (Or.inl rfl) hI d_Meths_endsWell_15
theorem d_Meths_staysInside_0 : decode b_Meths_staysInside 0 = .ok (.aload_n 0, 1) := by decide +kernel
theorem d_Meths_staysInside_1 : decode b_Meths_staysInside 1 = .ok (.getfield 15, 3) := by decide +kernel
theorem d_Meths_staysInside_4 : decode b_Meths_staysInside 4 = .ok (.aload_n 0, 1) := by decide +kernel
theorem d_Meths_staysInside_5 : decode b_Meths_staysInside 5 = .ok (.getfield 30, 3) := by decide +kernel
theorem d_Meths_staysInside_8 : decode b_Meths_staysInside 8 = .ok (.iaload, 1) := by decide +kernel
theorem d_Meths_staysInside_9 : decode b_Meths_staysInside 9 = .ok (.istore_n 1, 1) := by decide +kernel
theorem d_Meths_staysInside_10 : decode b_Meths_staysInside 10 = .ok (.iconst 0, 1) := by decide +kernel
theorem d_Meths_staysInside_11 : decode b_Meths_staysInside 11 = .ok (.istore_n 2, 1) := by decide +kernel
theorem d_Meths_staysInside_12 : decode b_Meths_staysInside 12 = .ok (.iload_n 2, 1) := by decide +kernel
theorem d_Meths_staysInside_13 : decode b_Meths_staysInside 13 = .ok (.iload_n 1, 1) := by decide +kernel
theorem d_Meths_staysInside_14 : decode b_Meths_staysInside 14 = .ok (.if_icmp .ge 76, 3) := by decide +kernel
theorem d_Meths_staysInside_17 : decode b_Meths_staysInside 17 = .ok (.aload_n 0, 1) := by decide +kernel
theorem d_Meths_staysInside_18 : decode b_Meths_staysInside 18 = .ok (.aload_n 0, 1) := by decide +kernel
theorem d_Meths_staysInside_19 : decode b_Meths_staysInside 19 = .ok (.getfield 30, 3) := by decide +kernel
theorem d_Meths_staysInside_22 : decode b_Meths_staysInside 22 = .ok (.iload_n 2, 1) := by decide +kernel
theorem d_Meths_staysInside_23 : decode b_Meths_staysInside 23 = .ok (.invokevirtual 38, 3) := by decide +kernel
theorem d_Meths_staysInside_26 : decode b_Meths_staysInside 26 = .ok (.istore_n 3, 1) := by decide +kernel
theorem d_Meths_staysInside_27 : decode b_Meths_staysInside 27 = .ok (.aload_n 0, 1) := by decide +kernel
theorem d_Meths_staysInside_28 : decode b_Meths_staysInside 28 = .ok (.getfield 18, 3) := by decide +kernel
theorem d_Meths_staysInside_31 : decode b_Meths_staysInside 31 = .ok (.iload_n 3, 1) := by decide +kernel
theorem d_Meths_staysInside_32 : decode b_Meths_staysInside 32 = .ok (.iaload, 1) := by decide +kernel
theorem d_Meths_staysInside_33 : decode b_Meths_staysInside 33 = .ok (.bipush 9, 2) := by decide +kernel
theorem d_Meths_staysInside_35 : decode b_Meths_staysInside 35 = .ok (.if_icmp .eq 25, 3) := by decide +kernel
theorem d_Meths_staysInside_38 : decode b_Meths_staysInside 38 = .ok (.aload_n 0, 1) := by decide +kernel
theorem d_Meths_staysInside_39 : decode b_Meths_staysInside 39 = .ok (.getfield 18, 3) := by decide +kernel
theorem d_Meths_staysInside_42 : decode b_Meths_staysInside 42 = .ok (.iload_n 3, 1) := by decide +kernel
theorem d_Meths_staysInside_43 : decode b_Meths_staysInside 43 = .ok (.iaload, 1) := by decide +kernel
theorem d_Meths_staysInside_44 : decode b_Meths_staysInside 44 = .ok (.bipush 10, 2) := by decide +kernel
theorem d_Meths_staysInside_46 : decode b_Meths_staysInside 46 = .ok (.if_icmp .eq 14, 3) := by decide +kernel
theorem d_Meths_staysInside_49 : decode b_Meths_staysInside 49 = .ok (.aload_n 0, 1) := by decide +kernel
theorem d_Meths_staysInside_50 : decode b_Meths_staysInside 50 = .ok (.getfield 18, 3) := by decide +kernel
theorem d_Meths_staysInside_53 : decode b_Meths_staysInside 53 = .ok (.iload_n 3, 1) := by decide +kernel
theorem d_Meths_staysInside_54 : decode b_Meths_staysInside 54 = .ok (.iaload, 1) := by decide +kernel
theorem d_Meths_staysInside_55 : decode b_Meths_staysInside 55 = .ok (.bipush 11, 2) := by decide +kernel
theorem d_Meths_staysInside_57 : decode b_Meths_staysInside 57 = .ok (.if_icmp .ne 7, 3) := by decide +kernel
theorem d_Meths_staysInside_60 : decode b_Meths_staysInside 60 = .ok (.iconst 1, 1) := by decide +kernel
theorem d_Meths_staysInside_61 : decode b_Meths_staysInside 61 = .ok (.goto 4, 3) := by decide +kernel
theorem d_Meths_staysInside_64 : decode b_Meths_staysInside 64 = .ok (.iconst 0, 1) := by decide +kernel
theorem d_Meths_staysInside_65 : decode b_Meths_staysInside 65 = .ok (.istore 4, 2) := by decide +kernel
theorem d_Meths_staysInside_67 : decode b_Meths_staysInside 67 = .ok (.iload 4, 2) := by decide +kernel
theorem d_Meths_staysInside_69 : decode b_Meths_staysInside 69 = .ok (.ifCond .eq 15, 3) := by decide +kernel
theorem d_Meths_staysInside_72 : decode b_Meths_staysInside 72 = .ok (.aload_n 0, 1) := by decide +kernel
theorem d_Meths_staysInside_73 : decode b_Meths_staysInside 73 = .ok (.getfield 27, 3) := by decide +kernel
theorem d_Meths_staysInside_76 : decode b_Meths_staysInside 76 = .ok (.iload_n 3, 1) := by decide +kernel
theorem d_Meths_staysInside_77 : decode b_Meths_staysInside 77 = .ok (.iaload, 1) := by decide +kernel
theorem d_Meths_staysInside_78 : decode b_Meths_staysInside 78 = .ok (.iload_n 1, 1) := by decide +kernel
theorem d_Meths_staysInside_79 : decode b_Meths_staysInside 79 = .ok (.if_icmp .lt 5, 3) := by decide +kernel
theorem d_Meths_staysInside_82 : decode b_Meths_staysInside 82 = .ok (.iconst 0, 1) := by decide +kernel
theorem d_Meths_staysInside_83 : decode b_Meths_staysInside 83 = .ok (.ireturn, 1) := by decide +kernel
theorem d_Meths_staysInside_84 : decode b_Meths_staysInside 84 = .ok (.iinc 2 1, 3) := by decide +kernel
theorem d_Meths_staysInside_87 : decode b_Meths_staysInside 87 = .ok (.goto (-75), 3) := by decide +kernel
theorem d_Meths_staysInside_90 : decode b_Meths_staysInside 90 = .ok (.aload_n 0, 1) := by decide +kernel
theorem d_Meths_staysInside_91 : decode b_Meths_staysInside 91 = .ok (.getfield 9, 3) := by decide +kernel
theorem d_Meths_staysInside_94 : decode b_Meths_staysInside 94 = .ok (.aload_n 0, 1) := by decide +kernel
theorem d_Meths_staysInside_95 : decode b_Meths_staysInside 95 = .ok (.getfield 30, 3) := by decide +kernel
theorem d_Meths_staysInside_98 : decode b_Meths_staysInside 98 = .ok (.iaload, 1) := by decide +kernel
theorem d_Meths_staysInside_99 : decode b_Meths_staysInside 99 = .ok (.iload_n 1, 1) := by decide +kernel
theorem d_Meths_staysInside_100 : decode b_Meths_staysInside 100 = .ok (.if_icmp .ge 7, 3) := by decide +kernel
theorem d_Meths_staysInside_103 : decode b_Meths_staysInside 103 = .ok (.iconst 1, 1) := by decide +kernel
theorem d_Meths_staysInside_104 : decode b_Meths_staysInside 104 = .ok (.goto 4, 3) := by decide +kernel
theorem d_Meths_staysInside_107 : decode b_Meths_staysInside 107 = .ok (.iconst 0, 1) := by decide +kernel
theorem d_Meths_staysInside_108 : decode b_Meths_staysInside 108 = .ok (.ireturn, 1) := by decide +kernel
abbrev rm_Meths_staysInside : Room := { frames := 1, cells := 0, slots := 0, locals := 22 }
set_option maxHeartbeats 4000000 in
set_option maxRecDepth 100000 in
theorem j_Meths_staysInside_B12_J84 {l : Launch} {dC : Nat → ClassId} {dI : Nat → Nat → Nat} {a : Nat → Nat} {cI : ClassId} {L : Nat} {tt : Nat → Nat} {pr : Program} {e : Env} {s : State} {m : MethodId} {args : Array Value} {below : List Frame} {meth : Method} {c : Code} {A : Nat → Prop} {ls : Array Slot} {H : Heap} {locs : List Loc} {σ : St} {x1 x2 : Int32} {q : Nat × (Int32 × St)} {Q : State → Prop} (C : Cx (dC, dI) clA (tyX cI) (SXx tt) pr s m args meth c b_Meths_staysInside 5 y_Meths_staysInside.cls A) (h : fMeths_staysInside_B12_J84 L σ x1 x2 = some q) (hl : lv_has ls 5 [(0, .ref (a 2)), (1, .int x1), (2, .int x2)]) (hI : Wi (dC, dI) clA (wX a cI L σ) s A H locs) (kC : q.1 = 1 → ∀ (ls : Array Slot) (H : Heap) (locs : List Loc), lv_has ls 5 [(0, .ref (a 2)), (1, .int x1), (2, .int q.2.1)] → Wi (dC, dI) clA (wX a cI L q.2.2) s A H locs → W pr l e rm_Meths_staysInside s m args below meth c H locs 0 0 Q (F0 m 12 ls [])) (kX0 : q.1 = 0 → ∀ (ls : Array Slot) (H : Heap) (locs : List Loc), lv_has ls 5 [(0, .ref (a 2)), (1, .int x1), (2, .int q.2.1)] → Wi (dC, dI) clA (wX a cI L q.2.2) s A H locs → W pr l e rm_Meths_staysInside s m args below meth c H locs 0 0 Q (F0 m 90 ls [])) (kX2 : q.1 = 2 → ∀ (ls : Array Slot) (H : Heap) (locs : List Loc), lv_has ls 5 [(0, .ref (a 2)), (1, .int x1), (2, .int q.2.1)] → Wi (dC, dI) clA (wX a cI L q.2.2) s A H locs → W pr l e rm_Meths_staysInside s m args below meth c H locs 0 0 Q (F0 m 82 ls [])) : W pr l e rm_Meths_staysInside s m args below meth c H locs 0 0 Q (F0 m 84 ls []) := by
  have hx := C.1
  have hb := C.2.1
  unfold fMeths_staysInside_B12_J84 at h
  refine lv_iinc (k := 2) (v := x2 + 1) (lv' := [(2, .int (x2 + 1)), (0, .ref (a 2)), (1, .int x1)]) hx hb d_Meths_staysInside_84 hl rfl rfl (by decide) rfl (fun ls hl => ?_)
  refine lv_goto (tgt := 12) hx hb d_Meths_staysInside_87 (by decide) ?_
  replace h := Option.some.inj h
  subst h
  exact kC rfl _ _ _ (lv_sub hl [1, 2, 0] rfl) hI
set_option maxHeartbeats 4000000 in
set_option maxRecDepth 100000 in
theorem j_Meths_staysInside_B12_J65 {l : Launch} {dC : Nat → ClassId} {dI : Nat → Nat → Nat} {a : Nat → Nat} {cI : ClassId} {L : Nat} {tt : Nat → Nat} {pr : Program} {e : Env} {s : State} {m : MethodId} {args : Array Value} {below : List Frame} {meth : Method} {c : Code} {A : Nat → Prop} {ls : Array Slot} {H : Heap} {locs : List Loc} {σ : St} {x1 x2 x3 s0 : Int32} {q : Nat × (Int32 × St)} {Q : State → Prop} (C : Cx (dC, dI) clA (tyX cI) (SXx tt) pr s m args meth c b_Meths_staysInside 5 y_Meths_staysInside.cls A) (h : fMeths_staysInside_B12_J65 L σ x1 x2 x3 s0 = some q) (hl : lv_has ls 5 [(0, .ref (a 2)), (1, .int x1), (2, .int x2), (3, .int x3)]) (hI : Wi (dC, dI) clA (wX a cI L σ) s A H locs) (kC : q.1 = 1 → ∀ (ls : Array Slot) (H : Heap) (locs : List Loc), lv_has ls 5 [(0, .ref (a 2)), (1, .int x1), (2, .int q.2.1)] → Wi (dC, dI) clA (wX a cI L q.2.2) s A H locs → W pr l e rm_Meths_staysInside s m args below meth c H locs 0 0 Q (F0 m 12 ls [])) (kX0 : q.1 = 0 → ∀ (ls : Array Slot) (H : Heap) (locs : List Loc), lv_has ls 5 [(0, .ref (a 2)), (1, .int x1), (2, .int q.2.1)] → Wi (dC, dI) clA (wX a cI L q.2.2) s A H locs → W pr l e rm_Meths_staysInside s m args below meth c H locs 0 0 Q (F0 m 90 ls [])) (kX2 : q.1 = 2 → ∀ (ls : Array Slot) (H : Heap) (locs : List Loc), lv_has ls 5 [(0, .ref (a 2)), (1, .int x1), (2, .int q.2.1)] → Wi (dC, dI) clA (wX a cI L q.2.2) s A H locs → W pr l e rm_Meths_staysInside s m args below meth c H locs 0 0 Q (F0 m 82 ls [])) : W pr l e rm_Meths_staysInside s m args below meth c H locs 0 0 Q (F0 m 65 ls [.int s0]) := by
  have hx := C.1
  have hb := C.2.1
  unfold fMeths_staysInside_B12_J65 at h
  refine lv_istore (lv' := [(4, .int s0), (0, .ref (a 2)), (1, .int x1), (2, .int x2), (3, .int x3)]) hx hb d_Meths_staysInside_65 hl (by decide) rfl (fun ls hl => ?_)
  refine lv_iload hx hb d_Meths_staysInside_67 (lv_at hl 0 rfl) ?_
  refine lv_if_eq (tgt := 84) hx hb d_Meths_staysInside_69 (by decide) (fun hc => ?_) (fun hc => ?_)
  · replace h := of_pos hc h
    exact j_Meths_staysInside_B12_J84 C h (lv_sub hl [1, 2, 3] rfl) hI kC kX0 kX2
  · replace h := of_neg hc h
    refine lv_aload_n hx hb d_Meths_staysInside_72 rfl (lv_at hl 1 rfl) ?_
    refine gf_Meths_27 C hI d_Meths_staysInside_73 ?_
    refine lv_iload_n hx hb d_Meths_staysInside_76 rfl (lv_at hl 4 rfl) ?_
    obtain ⟨hg77, h⟩ := of_guard h
    refine al_X_9 C hI (f := σ.2 9) rfl hg77 d_Meths_staysInside_77 ?_
    refine lv_iload_n hx hb d_Meths_staysInside_78 rfl (lv_at hl 2 rfl) ?_
    refine lv_icmp_lt (tgt := 84) hx hb d_Meths_staysInside_79 (by decide) (fun hc => ?_) (fun hc => ?_)
    · replace h := of_pos hc h
      exact j_Meths_staysInside_B12_J84 C h (lv_sub hl [1, 2, 3] rfl) hI kC kX0 kX2
    · replace h := of_neg hc h
      replace h := Option.some.inj h
      subst h
      exact kX2 rfl _ _ _ (lv_sub hl [1, 2, 3] rfl) hI
set_option maxHeartbeats 4000000 in
set_option maxRecDepth 100000 in
theorem j_Meths_staysInside_B12_J60 {l : Launch} {dC : Nat → ClassId} {dI : Nat → Nat → Nat} {a : Nat → Nat} {cI : ClassId} {L : Nat} {tt : Nat → Nat} {pr : Program} {e : Env} {s : State} {m : MethodId} {args : Array Value} {below : List Frame} {meth : Method} {c : Code} {A : Nat → Prop} {ls : Array Slot} {H : Heap} {locs : List Loc} {σ : St} {x1 x2 x3 : Int32} {q : Nat × (Int32 × St)} {Q : State → Prop} (C : Cx (dC, dI) clA (tyX cI) (SXx tt) pr s m args meth c b_Meths_staysInside 5 y_Meths_staysInside.cls A) (h : fMeths_staysInside_B12_J60 L σ x1 x2 x3 = some q) (hl : lv_has ls 5 [(0, .ref (a 2)), (1, .int x1), (2, .int x2), (3, .int x3)]) (hI : Wi (dC, dI) clA (wX a cI L σ) s A H locs) (kC : q.1 = 1 → ∀ (ls : Array Slot) (H : Heap) (locs : List Loc), lv_has ls 5 [(0, .ref (a 2)), (1, .int x1), (2, .int q.2.1)] → Wi (dC, dI) clA (wX a cI L q.2.2) s A H locs → W pr l e rm_Meths_staysInside s m args below meth c H locs 0 0 Q (F0 m 12 ls [])) (kX0 : q.1 = 0 → ∀ (ls : Array Slot) (H : Heap) (locs : List Loc), lv_has ls 5 [(0, .ref (a 2)), (1, .int x1), (2, .int q.2.1)] → Wi (dC, dI) clA (wX a cI L q.2.2) s A H locs → W pr l e rm_Meths_staysInside s m args below meth c H locs 0 0 Q (F0 m 90 ls [])) (kX2 : q.1 = 2 → ∀ (ls : Array Slot) (H : Heap) (locs : List Loc), lv_has ls 5 [(0, .ref (a 2)), (1, .int x1), (2, .int q.2.1)] → Wi (dC, dI) clA (wX a cI L q.2.2) s A H locs → W pr l e rm_Meths_staysInside s m args below meth c H locs 0 0 Q (F0 m 82 ls [])) : W pr l e rm_Meths_staysInside s m args below meth c H locs 0 0 Q (F0 m 60 ls []) := by
  have hx := C.1
  have hb := C.2.1
  unfold fMeths_staysInside_B12_J60 at h
  refine lv_iconst (v := 1) hx hb d_Meths_staysInside_60 (by decide) ?_
  refine lv_goto (tgt := 65) hx hb d_Meths_staysInside_61 (by decide) ?_
  exact j_Meths_staysInside_B12_J65 C h (lv_sub hl [0, 1, 2, 3] rfl) hI kC kX0 kX2
set_option maxHeartbeats 4000000 in
set_option maxRecDepth 100000 in
theorem b_Meths_staysInside_B12 {l : Launch} {dC : Nat → ClassId} {dI : Nat → Nat → Nat} {a : Nat → Nat} {cI : ClassId} {L : Nat} {tt : Nat → Nat} {pr : Program} {e : Env} {s : State} {m : MethodId} {args : Array Value} {below : List Frame} {meth : Method} {c : Code} {A : Nat → Prop} {ls : Array Slot} {H : Heap} {locs : List Loc} {x1 : Int32} {s0 : Int32 × St} {q : Nat × (Int32 × St)} {Q : State → Prop} (C : Cx (dC, dI) clA (tyX cI) (SXx tt) pr s m args meth c b_Meths_staysInside 5 y_Meths_staysInside.cls A) (h : fMeths_staysInside_B12 L x1 s0 = some q) (hl : lv_has ls 5 [(0, .ref (a 2)), (1, .int x1), (2, .int s0.1)]) (hI : Wi (dC, dI) clA (wX a cI L s0.2) s A H locs) (kC : q.1 = 1 → ∀ (ls : Array Slot) (H : Heap) (locs : List Loc), lv_has ls 5 [(0, .ref (a 2)), (1, .int x1), (2, .int q.2.1)] → Wi (dC, dI) clA (wX a cI L q.2.2) s A H locs → W pr l e rm_Meths_staysInside s m args below meth c H locs 0 0 Q (F0 m 12 ls [])) (kX0 : q.1 = 0 → ∀ (ls : Array Slot) (H : Heap) (locs : List Loc), lv_has ls 5 [(0, .ref (a 2)), (1, .int x1), (2, .int q.2.1)] → Wi (dC, dI) clA (wX a cI L q.2.2) s A H locs → W pr l e rm_Meths_staysInside s m args below meth c H locs 0 0 Q (F0 m 90 ls [])) (kX2 : q.1 = 2 → ∀ (ls : Array Slot) (H : Heap) (locs : List Loc), lv_has ls 5 [(0, .ref (a 2)), (1, .int x1), (2, .int q.2.1)] → Wi (dC, dI) clA (wX a cI L q.2.2) s A H locs → W pr l e rm_Meths_staysInside s m args below meth c H locs 0 0 Q (F0 m 82 ls [])) : W pr l e rm_Meths_staysInside s m args below meth c H locs 0 0 Q (F0 m 12 ls []) := by
  have hx := C.1
  have hb := C.2.1
  unfold fMeths_staysInside_B12 at h
  refine lv_iload_n hx hb d_Meths_staysInside_12 rfl (lv_at hl 2 rfl) ?_
  refine lv_iload_n hx hb d_Meths_staysInside_13 rfl (lv_at hl 1 rfl) ?_
  refine lv_icmp_ge (tgt := 90) hx hb d_Meths_staysInside_14 (by decide) (fun hc => ?_) (fun hc => ?_)
  · replace h := of_pos hc h
    replace h := Option.some.inj h
    subst h
    exact kX0 rfl _ _ _ (lv_sub hl [0, 1, 2] rfl) hI
  · replace h := of_neg hc h
    refine lv_aload_n hx hb d_Meths_staysInside_17 rfl (lv_at hl 0 rfl) ?_
    refine lv_aload_n hx hb d_Meths_staysInside_18 rfl (lv_at hl 0 rfl) ?_
    refine gf_Meths_30 C hI (v := s0.2.1 7) rfl d_Meths_staysInside_19 ?_
    refine lv_iload_n hx hb d_Meths_staysInside_22 rfl (lv_at hl 2 rfl) ?_
    obtain ⟨p23, hp23, h⟩ := of_bind h
    refine rb_callI sxok C (c_Meths_find hp23) cw_Meths_38 ⟨Nat.le_of_ble_eq_true rfl, Nat.le_of_ble_eq_true rfl⟩ ⟨rfl, rfl⟩ (q0 := 2) (ci := 2) rfl rfl hI ⟨Nat.zero_le _, Nat.zero_le _⟩ (As := [.int (s0.2.1 7), .int s0.1]) rfl hl.1 (rest := []) (Nat.le_of_ble_eq_true rfl) rfl d_Meths_staysInside_23 (fun H locs hI => ?_)
    refine lv_istore_n (lv' := [(3, .int p23.1), (0, .ref (a 2)), (1, .int x1), (2, .int s0.1)]) hx hb d_Meths_staysInside_26 rfl hl (by decide) rfl (fun ls hl => ?_)
    refine lv_aload_n hx hb d_Meths_staysInside_27 rfl (lv_at hl 1 rfl) ?_
    refine gf_Meths_18 C hI d_Meths_staysInside_28 ?_
    refine lv_iload_n hx hb d_Meths_staysInside_31 rfl (lv_at hl 0 rfl) ?_
    obtain ⟨hg32, h⟩ := of_guard h
    refine al_X_6 C hI (f := p23.2.2 6) rfl hg32 d_Meths_staysInside_32 ?_
    refine lv_bipush (v := 9) hx hb d_Meths_staysInside_33 (by decide) ?_
    refine lv_icmp_eq (tgt := 60) hx hb d_Meths_staysInside_35 (by decide) (fun hc => ?_) (fun hc => ?_)
    · replace h := of_pos hc h
      exact j_Meths_staysInside_B12_J60 C h (lv_sub hl [1, 2, 3, 0] rfl) hI kC kX0 kX2
    · replace h := of_neg hc h
      refine lv_aload_n hx hb d_Meths_staysInside_38 rfl (lv_at hl 1 rfl) ?_
      refine gf_Meths_18 C hI d_Meths_staysInside_39 ?_
      refine lv_iload_n hx hb d_Meths_staysInside_42 rfl (lv_at hl 0 rfl) ?_
      obtain ⟨hg43, h⟩ := of_guard h
      refine al_X_6 C hI (f := p23.2.2 6) rfl hg43 d_Meths_staysInside_43 ?_
      refine lv_bipush (v := 10) hx hb d_Meths_staysInside_44 (by decide) ?_
      refine lv_icmp_eq (tgt := 60) hx hb d_Meths_staysInside_46 (by decide) (fun hc => ?_) (fun hc => ?_)
      · replace h := of_pos hc h
        exact j_Meths_staysInside_B12_J60 C h (lv_sub hl [1, 2, 3, 0] rfl) hI kC kX0 kX2
      · replace h := of_neg hc h
        refine lv_aload_n hx hb d_Meths_staysInside_49 rfl (lv_at hl 1 rfl) ?_
        refine gf_Meths_18 C hI d_Meths_staysInside_50 ?_
        refine lv_iload_n hx hb d_Meths_staysInside_53 rfl (lv_at hl 0 rfl) ?_
        obtain ⟨hg54, h⟩ := of_guard h
        refine al_X_6 C hI (f := p23.2.2 6) rfl hg54 d_Meths_staysInside_54 ?_
        refine lv_bipush (v := 11) hx hb d_Meths_staysInside_55 (by decide) ?_
        refine lv_icmp_ne (tgt := 64) hx hb d_Meths_staysInside_57 (by decide) (fun hc => ?_) (fun hc => ?_)
        · replace h := of_neg hc h
          refine lv_iconst (v := 0) hx hb d_Meths_staysInside_64 (by decide) ?_
          exact j_Meths_staysInside_B12_J65 C h (lv_sub hl [1, 2, 3, 0] rfl) hI kC kX0 kX2
        · replace h := of_pos hc h
          exact j_Meths_staysInside_B12_J60 C h (lv_sub hl [1, 2, 3, 0] rfl) hI kC kX0 kX2
set_option maxHeartbeats 4000000 in
set_option maxRecDepth 100000 in
theorem l_Meths_staysInside_B12 {l : Launch} {dC : Nat → ClassId} {dI : Nat → Nat → Nat} {a : Nat → Nat} {cI : ClassId} {L : Nat} {tt : Nat → Nat} {pr : Program} {e : Env} {s : State} {m : MethodId} {args : Array Value} {below : List Frame} {meth : Method} {c : Code} {A : Nat → Prop} {x1 : Int32} {Q : State → Prop} (C : Cx (dC, dI) clA (tyX cI) (SXx tt) pr s m args meth c b_Meths_staysInside 5 y_Meths_staysInside.cls A) : ∀ (k : Nat) (s0 : Int32 × St) (q : Nat × (Int32 × St)) (ls : Array Slot) (H : Heap) (locs : List Loc), rbLoop (fMeths_staysInside_B12 L x1) k s0 = some q → lv_has ls 5 [(0, .ref (a 2)), (1, .int x1), (2, .int s0.1)] → Wi (dC, dI) clA (wX a cI L s0.2) s A H locs → (q.1 = 0 → ∀ (ls : Array Slot) (H : Heap) (locs : List Loc), lv_has ls 5 [(0, .ref (a 2)), (1, .int x1), (2, .int q.2.1)] → Wi (dC, dI) clA (wX a cI L q.2.2) s A H locs → W pr l e rm_Meths_staysInside s m args below meth c H locs 0 0 Q (F0 m 90 ls [])) → (q.1 = 2 → ∀ (ls : Array Slot) (H : Heap) (locs : List Loc), lv_has ls 5 [(0, .ref (a 2)), (1, .int x1), (2, .int q.2.1)] → Wi (dC, dI) clA (wX a cI L q.2.2) s A H locs → W pr l e rm_Meths_staysInside s m args below meth c H locs 0 0 Q (F0 m 82 ls [])) → W pr l e rm_Meths_staysInside s m args below meth c H locs 0 0 Q (F0 m 12 ls []) := by
  intro k
  induction k with
  | zero => intro s0 q ls H locs h; cases h
  | succ k ih =>
    intro s0 q ls H locs h hl hI kX0 kX2
    obtain ⟨q1, hq1, h⟩ := rbLoop_succ h
    by_cases hc : q1.1 = 1
    · replace h := of_pos hc h
      refine b_Meths_staysInside_B12 C hq1 hl hI (fun _ ls H locs hl hI => ih _ _ _ _ _ h hl hI kX0 kX2) (fun hz => absurd (hc.symm.trans hz) (by decide)) (fun hz => absurd (hc.symm.trans hz) (by decide))
    · replace h := of_neg hc h
      cases h
      exact b_Meths_staysInside_B12 C hq1 hl hI (fun hz => absurd hz hc) kX0 kX2
set_option maxHeartbeats 4000000 in
set_option maxRecDepth 100000 in
theorem c_Meths_staysInside {l : Launch} {dC : Nat → ClassId} {dI : Nat → Nat → Nat} {a : Nat → Nat} {cI : ClassId} {L : Nat} {tt : Nat → Nat} {σ : St} {q : Int32 × St} (h : fMeths_staysInside L σ = some q) : CI l (dC, dI) clA (tyX cI) (SXx tt) (wX a cI L σ) (wX a cI L q.2) y_Meths_staysInside b_Meths_staysInside 5 (some .boolean) rm_Meths_staysInside [.ref (a 2)] q.1 := by
  refine CI_of (by decide) (Nat.le_of_ble_eq_true rfl) ?_
  intro pr e s m below meth c A ls C hr hl hI
  have hx := C.1
  have hb := C.2.1
  have hl : lv_has ls 5 [(0, .ref (a 2))] := hl
  unfold fMeths_staysInside at h
  refine lv_aload_n hx hb d_Meths_staysInside_0 rfl (lv_at hl 0 rfl) ?_
  refine gf_Meths_15 C hI d_Meths_staysInside_1 ?_
  refine lv_aload_n hx hb d_Meths_staysInside_4 rfl (lv_at hl 0 rfl) ?_
  refine gf_Meths_30 C hI (v := σ.1 7) rfl d_Meths_staysInside_5 ?_
  obtain ⟨hg8, h⟩ := of_guard h
  refine al_X_5 C hI (f := σ.2 5) rfl hg8 d_Meths_staysInside_8 ?_
  refine lv_istore_n (lv' := [(1, .int ((σ.2 5) (σ.1 7).toNatClampNeg)), (0, .ref (a 2))]) hx hb d_Meths_staysInside_9 rfl hl (by decide) rfl (fun ls hl => ?_)
  refine lv_iconst (v := 0) hx hb d_Meths_staysInside_10 (by decide) ?_
  refine lv_istore_n (lv' := [(2, .int 0), (1, .int ((σ.2 5) (σ.1 7).toNatClampNeg)), (0, .ref (a 2))]) hx hb d_Meths_staysInside_11 rfl hl (by decide) rfl (fun ls hl => ?_)
  obtain ⟨q12, hq12, h⟩ := of_bind h
  refine l_Meths_staysInside_B12 C _ _ _ _ _ _ hq12 (lv_sub hl [2, 1, 0] rfl) hI ?_ ?_
  · intro hq ls H locs hl hI
    replace h := of_pos hq h
    refine lv_aload_n hx hb d_Meths_staysInside_90 rfl (lv_at hl 0 rfl) ?_
    refine gf_Meths_9 C hI d_Meths_staysInside_91 ?_
    refine lv_aload_n hx hb d_Meths_staysInside_94 rfl (lv_at hl 0 rfl) ?_
    refine gf_Meths_30 C hI (v := q12.2.2.1 7) rfl d_Meths_staysInside_95 ?_
    obtain ⟨hg98, h⟩ := of_guard h
    refine al_X_4 C hI (f := q12.2.2.2 4) rfl hg98 d_Meths_staysInside_98 ?_
    refine lv_iload_n hx hb d_Meths_staysInside_99 rfl (lv_at hl 1 rfl) ?_
    refine lv_icmp_ge (tgt := 107) hx hb d_Meths_staysInside_100 (by decide) (fun hc => ?_) (fun hc => ?_)
    · replace h := of_pos hc h
      refine lv_iconst (v := 0) hx hb d_Meths_staysInside_107 (by decide) ?_
      replace h := Option.some.inj h
      subst h
      exact rb_retZ C hr (Or.inl rfl) hI d_Meths_staysInside_108
    · replace h := of_neg hc h
      refine lv_iconst (v := 1) hx hb d_Meths_staysInside_103 (by decide) ?_
      refine lv_goto (tgt := 108) hx hb d_Meths_staysInside_104 (by decide) ?_
      replace h := Option.some.inj h
      subst h
      exact rb_retZ C hr (Or.inr rfl) hI d_Meths_staysInside_108
  · intro hq ls H locs hl hI
    replace h := of_neg (by rw [hq]; decide) h
    refine lv_iconst (v := 0) hx hb d_Meths_staysInside_82 (by decide) ?_
    replace h := Option.some.inj h
    subst h
    exact rb_retZ C hr (Or.inl rfl) hI d_Meths_staysInside_83
theorem d_Meths_finish_0 : decode b_Meths_finish 0 = .ok (.aload_n 0, 1) := by decide +kernel
theorem d_Meths_finish_1 : decode b_Meths_finish 1 = .ok (.getfield 34, 3) := by decide +kernel
theorem d_Meths_finish_4 : decode b_Meths_finish 4 = .ok (.ifCond .eq 17, 3) := by decide +kernel
theorem d_Meths_finish_7 : decode b_Meths_finish 7 = .ok (.aload_n 0, 1) := by decide +kernel
theorem d_Meths_finish_8 : decode b_Meths_finish 8 = .ok (.invokevirtual 42, 3) := by decide +kernel
theorem d_Meths_finish_11 : decode b_Meths_finish 11 = .ok (.ifCond .eq 10, 3) := by decide +kernel
theorem d_Meths_finish_14 : decode b_Meths_finish 14 = .ok (.aload_n 0, 1) := by decide +kernel
theorem d_Meths_finish_15 : decode b_Meths_finish 15 = .ok (.invokevirtual 46, 3) := by decide +kernel
theorem d_Meths_finish_18 : decode b_Meths_finish 18 = .ok (.ifCond .ne 5, 3) := by decide +kernel
theorem d_Meths_finish_21 : decode b_Meths_finish 21 = .ok (.iconst 0, 1) := by decide +kernel
theorem d_Meths_finish_22 : decode b_Meths_finish 22 = .ok (.ireturn, 1) := by decide +kernel
theorem d_Meths_finish_23 : decode b_Meths_finish 23 = .ok (.aload_n 0, 1) := by decide +kernel
theorem d_Meths_finish_24 : decode b_Meths_finish 24 = .ok (.iconst 0, 1) := by decide +kernel
theorem d_Meths_finish_25 : decode b_Meths_finish 25 = .ok (.putfield 34, 3) := by decide +kernel
theorem d_Meths_finish_28 : decode b_Meths_finish 28 = .ok (.aload_n 0, 1) := by decide +kernel
theorem d_Meths_finish_29 : decode b_Meths_finish 29 = .ok (.dup, 1) := by decide +kernel
theorem d_Meths_finish_30 : decode b_Meths_finish 30 = .ok (.getfield 30, 3) := by decide +kernel
theorem d_Meths_finish_33 : decode b_Meths_finish 33 = .ok (.iconst 1, 1) := by decide +kernel
theorem d_Meths_finish_34 : decode b_Meths_finish 34 = .ok (.iadd, 1) := by decide +kernel
theorem d_Meths_finish_35 : decode b_Meths_finish 35 = .ok (.putfield 30, 3) := by decide +kernel
theorem d_Meths_finish_38 : decode b_Meths_finish 38 = .ok (.iconst 1, 1) := by decide +kernel
theorem d_Meths_finish_39 : decode b_Meths_finish 39 = .ok (.ireturn, 1) := by decide +kernel
abbrev rm_Meths_finish : Room := { frames := 2, cells := 0, slots := 0, locals := 46 }
set_option maxHeartbeats 4000000 in
set_option maxRecDepth 100000 in
theorem c_Meths_finish {l : Launch} {dC : Nat → ClassId} {dI : Nat → Nat → Nat} {a : Nat → Nat} {cI : ClassId} {L : Nat} {tt : Nat → Nat} {σ : St} {q : Int32 × St} (h : fMeths_finish L σ = some q) : CI l (dC, dI) clA (tyX cI) (SXx tt) (wX a cI L σ) (wX a cI L q.2) y_Meths_finish b_Meths_finish 1 (some .boolean) rm_Meths_finish [.ref (a 2)] q.1 := by
  refine CI_of (by decide) (Nat.le_of_ble_eq_true rfl) ?_
  intro pr e s m below meth c A ls C hr hl hI
  have hx := C.1
  have hb := C.2.1
  have hl : lv_has ls 1 [(0, .ref (a 2))] := hl
  unfold fMeths_finish at h
  refine lv_aload_n hx hb d_Meths_finish_0 rfl (lv_at hl 0 rfl) ?_
  refine gf_Meths_34 C hI (v := σ.1 8) rfl d_Meths_finish_1 ?_
  refine lv_if_eq (tgt := 21) hx hb d_Meths_finish_4 (by decide) (fun hc => ?_) (fun hc => ?_)
  · replace h := of_pos hc h
    refine lv_iconst (v := 0) hx hb d_Meths_finish_21 (by decide) ?_
    replace h := Option.some.inj h
    subst h
    exact rb_retZ C hr (Or.inl rfl) hI d_Meths_finish_22
  · replace h := of_neg hc h
    refine lv_aload_n hx hb d_Meths_finish_7 rfl (lv_at hl 0 rfl) ?_
    obtain ⟨p8, hp8, h⟩ := of_bind h
    refine rb_callI sxok C (c_Meths_endsWell hp8) cw_Meths_42 ⟨Nat.le_of_ble_eq_true rfl, Nat.le_of_ble_eq_true rfl⟩ ⟨rfl, rfl⟩ (q0 := 2) (ci := 2) rfl rfl hI ⟨Nat.zero_le _, Nat.zero_le _⟩ (As := []) rfl hl.1 (rest := []) (Nat.le_of_ble_eq_true rfl) rfl d_Meths_finish_8 (fun H locs hI => ?_)
    refine lv_if_eq (tgt := 21) hx hb d_Meths_finish_11 (by decide) (fun hc => ?_) (fun hc => ?_)
    · replace h := of_pos hc h
      refine lv_iconst (v := 0) hx hb d_Meths_finish_21 (by decide) ?_
      replace h := Option.some.inj h
      subst h
      exact rb_retZ C hr (Or.inl rfl) hI d_Meths_finish_22
    · replace h := of_neg hc h
      refine lv_aload_n hx hb d_Meths_finish_14 rfl (lv_at hl 0 rfl) ?_
      obtain ⟨p15, hp15, h⟩ := of_bind h
      refine rb_callI sxok C (c_Meths_staysInside hp15) cw_Meths_46 ⟨Nat.le_of_ble_eq_true rfl, Nat.le_of_ble_eq_true rfl⟩ ⟨rfl, rfl⟩ (q0 := 2) (ci := 2) rfl rfl hI ⟨Nat.zero_le _, Nat.zero_le _⟩ (As := []) rfl hl.1 (rest := []) (Nat.le_of_ble_eq_true rfl) rfl d_Meths_finish_15 (fun H locs hI => ?_)
      refine lv_if_ne (tgt := 23) hx hb d_Meths_finish_18 (by decide) (fun hc => ?_) (fun hc => ?_)
      · replace h := of_neg hc h
        refine lv_aload_n hx hb d_Meths_finish_23 rfl (lv_at hl 0 rfl) ?_
        refine lv_iconst (v := 0) hx hb d_Meths_finish_24 (by decide) ?_
        refine pf_Meths_34 C hI (σ' := (upd p15.2.1 8 0, p15.2.2)) rfl (by decide) d_Meths_finish_25 (fun H locs hI => ?_)
        refine lv_aload_n hx hb d_Meths_finish_28 rfl (lv_at hl 0 rfl) ?_
        refine lv_dup hx hb d_Meths_finish_29 rfl ?_
        refine gf_Meths_30 C hI (v := p15.2.1 7) rfl d_Meths_finish_30 ?_
        refine lv_iconst (v := 1) hx hb d_Meths_finish_33 (by decide) ?_
        refine lv_iadd hx hb d_Meths_finish_34 ?_
        refine pf_Meths_30 C hI (σ' := (upd (upd p15.2.1 8 0) 7 ((p15.2.1 7) + 1), p15.2.2)) rfl d_Meths_finish_35 (fun H locs hI => ?_)
        refine lv_iconst (v := 1) hx hb d_Meths_finish_38 (by decide) ?_
        replace h := Option.some.inj h
        subst h
        exact rb_retZ C hr (Or.inr rfl) hI d_Meths_finish_39
      · replace h := of_pos hc h
        refine lv_iconst (v := 0) hx hb d_Meths_finish_21 (by decide) ?_
        replace h := Option.some.inj h
        subst h
        exact rb_retZ C hr (Or.inl rfl) hI d_Meths_finish_22
