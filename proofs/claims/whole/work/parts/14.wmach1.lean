theorem d_Mach_kind_0 : decode b_Mach_kind 0 = .ok (.aload_n 0, 1) := by decide +kernel
theorem d_Mach_kind_1 : decode b_Mach_kind 1 = .ok (.getfield 10, 3) := by decide +kernel
theorem d_Mach_kind_4 : decode b_Mach_kind 4 = .ok (.iload_n 1, 1) := by decide +kernel
theorem d_Mach_kind_5 : decode b_Mach_kind 5 = .ok (.iload_n 2, 1) := by decide +kernel
theorem d_Mach_kind_6 : decode b_Mach_kind 6 = .ok (.iload_n 3, 1) := by decide +kernel
theorem d_Mach_kind_7 : decode b_Mach_kind 7 = .ok (.invokevirtual 49, 3) := by decide +kernel
theorem d_Mach_kind_10 : decode b_Mach_kind 10 = .ok (.ireturn, 1) := by decide +kernel
abbrev rm_Mach_kind : Room := { frames := 3, cells := 0, slots := 0, locals := 70 }
set_option maxHeartbeats 4000000 in
set_option maxRecDepth 100000 in
theorem c_Mach_kind {l : Launch} {dC : Nat → ClassId} {dI : Nat → Nat → Nat} {a : Nat → Nat} {cI : ClassId} {L : Nat} {tt : Nat → Nat} {σ : St} {x1 x2 x3 : Int32} {q : Int32 × St} (h : fMach_kind L σ x1 x2 x3 = some q) : CI l (dC, dI) clA (tyX cI) (SXx tt) (wX a cI L σ) (wX a cI L q.2) y_Mach_kind b_Mach_kind 4 (some .int) rm_Mach_kind [.ref (a 0), .int x1, .int x2, .int x3] q.1 := by
  refine CI_of (by decide) (Nat.le_of_ble_eq_true rfl) ?_
  intro pr e s m below meth c A ls C hr hl hI
  have hx := C.1
  have hb := C.2.1
  have hl : lv_has ls 4 [(0, .ref (a 0)), (1, .int x1), (2, .int x2), (3, .int x3)] := hl
  unfold fMach_kind at h
  refine lv_aload_n hx hb d_Mach_kind_0 rfl (lv_at hl 0 rfl) ?_
  refine gf_Mach_10 C hI d_Mach_kind_1 ?_
  refine lv_iload_n hx hb d_Mach_kind_4 rfl (lv_at hl 1 rfl) ?_
  refine lv_iload_n hx hb d_Mach_kind_5 rfl (lv_at hl 2 rfl) ?_
  refine lv_iload_n hx hb d_Mach_kind_6 rfl (lv_at hl 3 rfl) ?_
  obtain ⟨p7, hp7, h⟩ := of_bind h
  refine rb_callI sxok C (c_Kinds_load hp7) cw_Mach_49 ⟨Nat.le_of_ble_eq_true rfl, Nat.le_of_ble_eq_true rfl⟩ ⟨rfl, rfl⟩ (q0 := 1) (ci := 1) rfl rfl hI ⟨Nat.zero_le _, Nat.zero_le _⟩ (As := [.int x1, .int x2, .int x3]) rfl hl.1 (rest := []) (Nat.le_of_ble_eq_true rfl) rfl d_Mach_kind_7 (fun H locs hI => ?_)
  replace h := Option.some.inj h
  subst h
  exact rb_retI C hr hI d_Mach_kind_10
theorem d_Mach_bind_0 : decode b_Mach_bind 0 = .ok (.aload_n 0, 1) := by decide +kernel
theorem d_Mach_bind_1 : decode b_Mach_bind 1 = .ok (.getfield 10, 3) := by decide +kernel
theorem d_Mach_bind_4 : decode b_Mach_bind 4 = .ok (.iload_n 1, 1) := by decide +kernel
theorem d_Mach_bind_5 : decode b_Mach_bind 5 = .ok (.invokevirtual 53, 3) := by decide +kernel
theorem d_Mach_bind_8 : decode b_Mach_bind 8 = .ok (.ifCond .eq 23, 3) := by decide +kernel
theorem d_Mach_bind_11 : decode b_Mach_bind 11 = .ok (.iload_n 2, 1) := by decide +kernel
theorem d_Mach_bind_12 : decode b_Mach_bind 12 = .ok (.ifCond .lt 19, 3) := by decide +kernel
theorem d_Mach_bind_15 : decode b_Mach_bind 15 = .ok (.iload_n 2, 1) := by decide +kernel
theorem d_Mach_bind_16 : decode b_Mach_bind 16 = .ok (.iconst 4, 1) := by decide +kernel
theorem d_Mach_bind_17 : decode b_Mach_bind 17 = .ok (.if_icmp .ge 14, 3) := by decide +kernel
theorem d_Mach_bind_20 : decode b_Mach_bind 20 = .ok (.aload_n 0, 1) := by decide +kernel
theorem d_Mach_bind_21 : decode b_Mach_bind 21 = .ok (.getfield 19, 3) := by decide +kernel
theorem d_Mach_bind_24 : decode b_Mach_bind 24 = .ok (.iload_n 3, 1) := by decide +kernel
theorem d_Mach_bind_25 : decode b_Mach_bind 25 = .ok (.invokevirtual 57, 3) := by decide +kernel
theorem d_Mach_bind_28 : decode b_Mach_bind 28 = .ok (.ifCond .ne 5, 3) := by decide +kernel
theorem d_Mach_bind_31 : decode b_Mach_bind 31 = .ok (.iconst 0, 1) := by decide +kernel
theorem d_Mach_bind_32 : decode b_Mach_bind 32 = .ok (.ireturn, 1) := by decide +kernel
theorem d_Mach_bind_33 : decode b_Mach_bind 33 = .ok (.aload_n 0, 1) := by decide +kernel
theorem d_Mach_bind_34 : decode b_Mach_bind 34 = .ok (.getfield 10, 3) := by decide +kernel
theorem d_Mach_bind_37 : decode b_Mach_bind 37 = .ok (.iload_n 1, 1) := by decide +kernel
theorem d_Mach_bind_38 : decode b_Mach_bind 38 = .ok (.iload_n 2, 1) := by decide +kernel
theorem d_Mach_bind_39 : decode b_Mach_bind 39 = .ok (.iload_n 3, 1) := by decide +kernel
theorem d_Mach_bind_40 : decode b_Mach_bind 40 = .ok (.invokevirtual 60, 3) := by decide +kernel
theorem d_Mach_bind_43 : decode b_Mach_bind 43 = .ok (.iconst 1, 1) := by decide +kernel
theorem d_Mach_bind_44 : decode b_Mach_bind 44 = .ok (.ireturn, 1) := by decide +kernel
abbrev rm_Mach_bind : Room := { frames := 1, cells := 0, slots := 0, locals := 23 }
set_option maxHeartbeats 4000000 in
set_option maxRecDepth 100000 in
theorem c_Mach_bind {l : Launch} {dC : Nat → ClassId} {dI : Nat → Nat → Nat} {a : Nat → Nat} {cI : ClassId} {L : Nat} {tt : Nat → Nat} {σ : St} {x1 x2 x3 : Int32} {q : Int32 × St} (h : fMach_bind L σ x1 x2 x3 = some q) : CI l (dC, dI) clA (tyX cI) (SXx tt) (wX a cI L σ) (wX a cI L q.2) y_Mach_bind b_Mach_bind 4 (some .boolean) rm_Mach_bind [.ref (a 0), .int x1, .int x2, .int x3] q.1 := by
  refine CI_of (by decide) (Nat.le_of_ble_eq_true rfl) ?_
  intro pr e s m below meth c A ls C hr hl hI
  have hx := C.1
  have hb := C.2.1
  have hl : lv_has ls 4 [(0, .ref (a 0)), (1, .int x1), (2, .int x2), (3, .int x3)] := hl
  unfold fMach_bind at h
  refine lv_aload_n hx hb d_Mach_bind_0 rfl (lv_at hl 0 rfl) ?_
  refine gf_Mach_10 C hI d_Mach_bind_1 ?_
  refine lv_iload_n hx hb d_Mach_bind_4 rfl (lv_at hl 1 rfl) ?_
  obtain ⟨p5, hp5, h⟩ := of_bind h
  refine rb_callI sxok C (c_Kinds_has hp5) cw_Mach_53 ⟨Nat.le_of_ble_eq_true rfl, Nat.le_of_ble_eq_true rfl⟩ ⟨rfl, rfl⟩ (q0 := 1) (ci := 1) rfl rfl hI ⟨Nat.zero_le _, Nat.zero_le _⟩ (As := [.int x1]) rfl hl.1 (rest := []) (Nat.le_of_ble_eq_true rfl) rfl d_Mach_bind_5 (fun H locs hI => ?_)
  refine lv_if_eq (tgt := 31) hx hb d_Mach_bind_8 (by decide) (fun hc => ?_) (fun hc => ?_)
  · replace h := of_pos hc h
    refine lv_iconst (v := 0) hx hb d_Mach_bind_31 (by decide) ?_
    replace h := Option.some.inj h
    subst h
    exact rb_retZ C hr (Or.inl rfl) hI d_Mach_bind_32
  · replace h := of_neg hc h
    refine lv_iload_n hx hb d_Mach_bind_11 rfl (lv_at hl 2 rfl) ?_
    refine lv_if_lt (tgt := 31) hx hb d_Mach_bind_12 (by decide) (fun hc => ?_) (fun hc => ?_)
    · replace h := of_pos hc h
      refine lv_iconst (v := 0) hx hb d_Mach_bind_31 (by decide) ?_
      replace h := Option.some.inj h
      subst h
      exact rb_retZ C hr (Or.inl rfl) hI d_Mach_bind_32
    · replace h := of_neg hc h
      refine lv_iload_n hx hb d_Mach_bind_15 rfl (lv_at hl 2 rfl) ?_
      refine lv_iconst (v := 4) hx hb d_Mach_bind_16 (by decide) ?_
      refine lv_icmp_ge (tgt := 31) hx hb d_Mach_bind_17 (by decide) (fun hc => ?_) (fun hc => ?_)
      · replace h := of_pos hc h
        refine lv_iconst (v := 0) hx hb d_Mach_bind_31 (by decide) ?_
        replace h := Option.some.inj h
        subst h
        exact rb_retZ C hr (Or.inl rfl) hI d_Mach_bind_32
      · replace h := of_neg hc h
        refine lv_aload_n hx hb d_Mach_bind_20 rfl (lv_at hl 0 rfl) ?_
        refine gf_Mach_19 C hI d_Mach_bind_21 ?_
        refine lv_iload_n hx hb d_Mach_bind_24 rfl (lv_at hl 3 rfl) ?_
        obtain ⟨p25, hp25, h⟩ := of_bind h
        refine rb_callI sxok C (c_Meths_isFinished hp25) cw_Mach_57 ⟨Nat.le_of_ble_eq_true rfl, Nat.le_of_ble_eq_true rfl⟩ ⟨rfl, rfl⟩ (q0 := 2) (ci := 2) rfl rfl hI ⟨Nat.zero_le _, Nat.zero_le _⟩ (As := [.int x3]) rfl hl.1 (rest := []) (Nat.le_of_ble_eq_true rfl) rfl d_Mach_bind_25 (fun H locs hI => ?_)
        refine lv_if_ne (tgt := 33) hx hb d_Mach_bind_28 (by decide) (fun hc => ?_) (fun hc => ?_)
        · replace h := of_neg hc h
          refine lv_aload_n hx hb d_Mach_bind_33 rfl (lv_at hl 0 rfl) ?_
          refine gf_Mach_10 C hI d_Mach_bind_34 ?_
          refine lv_iload_n hx hb d_Mach_bind_37 rfl (lv_at hl 1 rfl) ?_
          refine lv_iload_n hx hb d_Mach_bind_38 rfl (lv_at hl 2 rfl) ?_
          refine lv_iload_n hx hb d_Mach_bind_39 rfl (lv_at hl 3 rfl) ?_
          obtain ⟨p40, hp40, h⟩ := of_bind h
          refine rb_callV sxok C (c_Kinds_enter hp40) cw_Mach_60 ⟨Nat.le_of_ble_eq_true rfl, Nat.le_of_ble_eq_true rfl⟩ ⟨rfl, rfl⟩ (q0 := 1) (ci := 1) rfl rfl hI ⟨Nat.zero_le _, Nat.zero_le _⟩ (As := [.int x1, .int x2, .int x3]) rfl hl.1 (rest := []) (Nat.le_of_ble_eq_true rfl) rfl d_Mach_bind_40 (fun H locs hI => ?_)
          refine lv_iconst (v := 1) hx hb d_Mach_bind_43 (by decide) ?_
          replace h := Option.some.inj h
          subst h
          exact rb_retZ C hr (Or.inr rfl) hI d_Mach_bind_44
        · replace h := of_pos hc h
          refine lv_iconst (v := 0) hx hb d_Mach_bind_31 (by decide) ?_
          replace h := Option.some.inj h
          subst h
          exact rb_retZ C hr (Or.inl rfl) hI d_Mach_bind_32
theorem d_Mach_method_0 : decode b_Mach_method 0 = .ok (.aload_n 0, 1) := by decide +kernel
theorem d_Mach_method_1 : decode b_Mach_method 1 = .ok (.getfield 19, 3) := by decide +kernel
theorem d_Mach_method_4 : decode b_Mach_method 4 = .ok (.iload_n 1, 1) := by decide +kernel
theorem d_Mach_method_5 : decode b_Mach_method 5 = .ok (.invokevirtual 64, 3) := by decide +kernel
theorem d_Mach_method_8 : decode b_Mach_method 8 = .ok (.ireturn, 1) := by decide +kernel
abbrev rm_Mach_method : Room := { frames := 1, cells := 0, slots := 0, locals := 21 }
set_option maxHeartbeats 4000000 in
set_option maxRecDepth 100000 in
theorem c_Mach_method {l : Launch} {dC : Nat → ClassId} {dI : Nat → Nat → Nat} {a : Nat → Nat} {cI : ClassId} {L : Nat} {tt : Nat → Nat} {σ : St} {x1 : Int32} {q : Int32 × St} (h : fMach_method L σ x1 = some q) : CI l (dC, dI) clA (tyX cI) (SXx tt) (wX a cI L σ) (wX a cI L q.2) y_Mach_method b_Mach_method 2 (some .int) rm_Mach_method [.ref (a 0), .int x1] q.1 := by
  refine CI_of (by decide) (Nat.le_of_ble_eq_true rfl) ?_
  intro pr e s m below meth c A ls C hr hl hI
  have hx := C.1
  have hb := C.2.1
  have hl : lv_has ls 2 [(0, .ref (a 0)), (1, .int x1)] := hl
  unfold fMach_method at h
  refine lv_aload_n hx hb d_Mach_method_0 rfl (lv_at hl 0 rfl) ?_
  refine gf_Mach_19 C hI d_Mach_method_1 ?_
  refine lv_iload_n hx hb d_Mach_method_4 rfl (lv_at hl 1 rfl) ?_
  obtain ⟨p5, hp5, h⟩ := of_bind h
  refine rb_callI sxok C (c_Meths_open hp5) cw_Mach_64 ⟨Nat.le_of_ble_eq_true rfl, Nat.le_of_ble_eq_true rfl⟩ ⟨rfl, rfl⟩ (q0 := 2) (ci := 2) rfl rfl hI ⟨Nat.zero_le _, Nat.zero_le _⟩ (As := [.int x1]) rfl hl.1 (rest := []) (Nat.le_of_ble_eq_true rfl) rfl d_Mach_method_5 (fun H locs hI => ?_)
  replace h := Option.some.inj h
  subst h
  exact rb_retI C hr hI d_Mach_method_8
theorem d_Mach_seal_0 : decode b_Mach_seal 0 = .ok (.aload_n 0, 1) := by decide +kernel
theorem d_Mach_seal_1 : decode b_Mach_seal 1 = .ok (.getfield 19, 3) := by decide +kernel
theorem d_Mach_seal_4 : decode b_Mach_seal 4 = .ok (.invokevirtual 84, 3) := by decide +kernel
theorem d_Mach_seal_7 : decode b_Mach_seal 7 = .ok (.ireturn, 1) := by decide +kernel
abbrev rm_Mach_seal : Room := { frames := 3, cells := 0, slots := 0, locals := 66 }
set_option maxHeartbeats 4000000 in
set_option maxRecDepth 100000 in
theorem c_Mach_seal {l : Launch} {dC : Nat → ClassId} {dI : Nat → Nat → Nat} {a : Nat → Nat} {cI : ClassId} {L : Nat} {tt : Nat → Nat} {σ : St} {q : Int32 × St} (h : fMach_seal L σ = some q) : CI l (dC, dI) clA (tyX cI) (SXx tt) (wX a cI L σ) (wX a cI L q.2) y_Mach_seal b_Mach_seal 1 (some .boolean) rm_Mach_seal [.ref (a 0)] q.1 := by
  refine CI_of (by decide) (Nat.le_of_ble_eq_true rfl) ?_
  intro pr e s m below meth c A ls C hr hl hI
  have hx := C.1
  have hb := C.2.1
  have hl : lv_has ls 1 [(0, .ref (a 0))] := hl
  unfold fMach_seal at h
  refine lv_aload_n hx hb d_Mach_seal_0 rfl (lv_at hl 0 rfl) ?_
  refine gf_Mach_19 C hI d_Mach_seal_1 ?_
  obtain ⟨p4, hp4, h⟩ := of_bind h
  refine rb_callI sxok C (c_Meths_finish hp4) cw_Mach_84 ⟨Nat.le_of_ble_eq_true rfl, Nat.le_of_ble_eq_true rfl⟩ ⟨rfl, rfl⟩ (q0 := 2) (ci := 2) rfl rfl hI ⟨Nat.zero_le _, Nat.zero_le _⟩ (As := []) rfl hl.1 (rest := []) (Nat.le_of_ble_eq_true rfl) rfl d_Mach_seal_4 (fun H locs hI => ?_)
  obtain ⟨hg, h⟩ := of_guard h
  replace h := Option.some.inj h
  subst h
  exact rb_retZ C hr hg hI d_Mach_seal_7
theorem d_Mach_drop_0 : decode b_Mach_drop 0 = .ok (.aload_n 0, 1) := by decide +kernel
theorem d_Mach_drop_1 : decode b_Mach_drop 1 = .ok (.getfield 19, 3) := by decide +kernel
theorem d_Mach_drop_4 : decode b_Mach_drop 4 = .ok (.invokevirtual 87, 3) := by decide +kernel
theorem d_Mach_drop_7 : decode b_Mach_drop 7 = .ok (.ireturn, 1) := by decide +kernel
abbrev rm_Mach_drop : Room := { frames := 1, cells := 0, slots := 0, locals := 21 }
set_option maxHeartbeats 4000000 in
set_option maxRecDepth 100000 in
theorem c_Mach_drop {l : Launch} {dC : Nat → ClassId} {dI : Nat → Nat → Nat} {a : Nat → Nat} {cI : ClassId} {L : Nat} {tt : Nat → Nat} {σ : St} {q : Int32 × St} (h : fMach_drop L σ = some q) : CI l (dC, dI) clA (tyX cI) (SXx tt) (wX a cI L σ) (wX a cI L q.2) y_Mach_drop b_Mach_drop 1 (some .boolean) rm_Mach_drop [.ref (a 0)] q.1 := by
  refine CI_of (by decide) (Nat.le_of_ble_eq_true rfl) ?_
  intro pr e s m below meth c A ls C hr hl hI
  have hx := C.1
  have hb := C.2.1
  have hl : lv_has ls 1 [(0, .ref (a 0))] := hl
  unfold fMach_drop at h
  refine lv_aload_n hx hb d_Mach_drop_0 rfl (lv_at hl 0 rfl) ?_
  refine gf_Mach_19 C hI d_Mach_drop_1 ?_
  obtain ⟨p4, hp4, h⟩ := of_bind h
  refine rb_callI sxok C (c_Meths_giveUp hp4) cw_Mach_87 ⟨Nat.le_of_ble_eq_true rfl, Nat.le_of_ble_eq_true rfl⟩ ⟨rfl, rfl⟩ (q0 := 2) (ci := 2) rfl rfl hI ⟨Nat.zero_le _, Nat.zero_le _⟩ (As := []) rfl hl.1 (rest := []) (Nat.le_of_ble_eq_true rfl) rfl d_Mach_drop_4 (fun H locs hI => ?_)
  obtain ⟨hg, h⟩ := of_guard h
  replace h := Option.some.inj h
  subst h
  exact rb_retZ C hr hg hI d_Mach_drop_7
theorem d_Mach_start_0 : decode b_Mach_start 0 = .ok (.aload_n 0, 1) := by decide +kernel
theorem d_Mach_start_1 : decode b_Mach_start 1 = .ok (.getfield 19, 3) := by decide +kernel
theorem d_Mach_start_4 : decode b_Mach_start 4 = .ok (.iload_n 1, 1) := by decide +kernel
theorem d_Mach_start_5 : decode b_Mach_start 5 = .ok (.invokevirtual 57, 3) := by decide +kernel
theorem d_Mach_start_8 : decode b_Mach_start 8 = .ok (.ifCond .ne 5, 3) := by decide +kernel
theorem d_Mach_start_11 : decode b_Mach_start 11 = .ok (.iconst 0, 1) := by decide +kernel
theorem d_Mach_start_12 : decode b_Mach_start 12 = .ok (.ireturn, 1) := by decide +kernel
theorem d_Mach_start_13 : decode b_Mach_start 13 = .ok (.aload_n 0, 1) := by decide +kernel
theorem d_Mach_start_14 : decode b_Mach_start 14 = .ok (.getfield 37, 3) := by decide +kernel
theorem d_Mach_start_17 : decode b_Mach_start 17 = .ok (.iload_n 1, 1) := by decide +kernel
theorem d_Mach_start_18 : decode b_Mach_start 18 = .ok (.invokevirtual 90, 3) := by decide +kernel
theorem d_Mach_start_21 : decode b_Mach_start 21 = .ok (.aload_n 0, 1) := by decide +kernel
theorem d_Mach_start_22 : decode b_Mach_start 22 = .ok (.getfield 37, 3) := by decide +kernel
theorem d_Mach_start_25 : decode b_Mach_start 25 = .ok (.aload_n 0, 1) := by decide +kernel
theorem d_Mach_start_26 : decode b_Mach_start 26 = .ok (.getfield 37, 3) := by decide +kernel
theorem d_Mach_start_29 : decode b_Mach_start 29 = .ok (.getfield 94, 3) := by decide +kernel
theorem d_Mach_start_32 : decode b_Mach_start 32 = .ok (.iconst 0, 1) := by decide +kernel
theorem d_Mach_start_33 : decode b_Mach_start 33 = .ok (.iload_n 2, 1) := by decide +kernel
theorem d_Mach_start_34 : decode b_Mach_start 34 = .ok (.invokevirtual 97, 3) := by decide +kernel
theorem d_Mach_start_37 : decode b_Mach_start 37 = .ok (.aload_n 0, 1) := by decide +kernel
theorem d_Mach_start_38 : decode b_Mach_start 38 = .ok (.iconst 0, 1) := by decide +kernel
theorem d_Mach_start_39 : decode b_Mach_start 39 = .ok (.putfield 45, 3) := by decide +kernel
theorem d_Mach_start_42 : decode b_Mach_start 42 = .ok (.aload_n 0, 1) := by decide +kernel
theorem d_Mach_start_43 : decode b_Mach_start 43 = .ok (.iconst 0, 1) := by decide +kernel
theorem d_Mach_start_44 : decode b_Mach_start 44 = .ok (.putfield 100, 3) := by decide +kernel
theorem d_Mach_start_47 : decode b_Mach_start 47 = .ok (.aload_n 0, 1) := by decide +kernel
theorem d_Mach_start_48 : decode b_Mach_start 48 = .ok (.iconst 0, 1) := by decide +kernel
theorem d_Mach_start_49 : decode b_Mach_start 49 = .ok (.putfield 103, 3) := by decide +kernel
theorem d_Mach_start_52 : decode b_Mach_start 52 = .ok (.aload_n 0, 1) := by decide +kernel
theorem d_Mach_start_53 : decode b_Mach_start 53 = .ok (.iconst 0, 1) := by decide +kernel
theorem d_Mach_start_54 : decode b_Mach_start 54 = .ok (.putfield 106, 3) := by decide +kernel
theorem d_Mach_start_57 : decode b_Mach_start 57 = .ok (.aload_n 0, 1) := by decide +kernel
theorem d_Mach_start_58 : decode b_Mach_start 58 = .ok (.iconst 0, 1) := by decide +kernel
theorem d_Mach_start_59 : decode b_Mach_start 59 = .ok (.putfield 109, 3) := by decide +kernel
theorem d_Mach_start_62 : decode b_Mach_start 62 = .ok (.iconst 1, 1) := by decide +kernel
theorem d_Mach_start_63 : decode b_Mach_start 63 = .ok (.ireturn, 1) := by decide +kernel
abbrev rm_Mach_start : Room := { frames := 6, cells := 0, slots := 0, locals := 177 }
set_option maxHeartbeats 4000000 in
set_option maxRecDepth 100000 in
theorem c_Mach_start {l : Launch} {dC : Nat → ClassId} {dI : Nat → Nat → Nat} {a : Nat → Nat} {cI : ClassId} {L : Nat} {tt : Nat → Nat} {σ : St} {x1 x2 : Int32} {q : Int32 × St} (h : fMach_start L σ x1 x2 = some q) : CI l (dC, dI) clA (tyX cI) (SXx tt) (wX a cI L σ) (wX a cI L q.2) y_Mach_start b_Mach_start 3 (some .boolean) rm_Mach_start [.ref (a 0), .int x1, .int x2] q.1 := by
  refine CI_of (by decide) (Nat.le_of_ble_eq_true rfl) ?_
  intro pr e s m below meth c A ls C hr hl hI
  have hx := C.1
  have hb := C.2.1
  have hl : lv_has ls 3 [(0, .ref (a 0)), (1, .int x1), (2, .int x2)] := hl
  unfold fMach_start at h
  refine lv_aload_n hx hb d_Mach_start_0 rfl (lv_at hl 0 rfl) ?_
  refine gf_Mach_19 C hI d_Mach_start_1 ?_
  refine lv_iload_n hx hb d_Mach_start_4 rfl (lv_at hl 1 rfl) ?_
  obtain ⟨p5, hp5, h⟩ := of_bind h
  refine rb_callI sxok C (c_Meths_isFinished hp5) cw_Mach_57 ⟨Nat.le_of_ble_eq_true rfl, Nat.le_of_ble_eq_true rfl⟩ ⟨rfl, rfl⟩ (q0 := 2) (ci := 2) rfl rfl hI ⟨Nat.zero_le _, Nat.zero_le _⟩ (As := [.int x1]) rfl hl.1 (rest := []) (Nat.le_of_ble_eq_true rfl) rfl d_Mach_start_5 (fun H locs hI => ?_)
  refine lv_if_ne (tgt := 13) hx hb d_Mach_start_8 (by decide) (fun hc => ?_) (fun hc => ?_)
  · replace h := of_neg hc h
    refine lv_aload_n hx hb d_Mach_start_13 rfl (lv_at hl 0 rfl) ?_
    refine gf_Mach_37 C hI d_Mach_start_14 ?_
    refine lv_iload_n hx hb d_Mach_start_17 rfl (lv_at hl 1 rfl) ?_
    obtain ⟨p18, hp18, h⟩ := of_bind h
    refine rb_callV sxok C (c_Room_restart hp18) cw_Mach_90 ⟨Nat.le_of_ble_eq_true rfl, Nat.le_of_ble_eq_true rfl⟩ ⟨rfl, rfl⟩ (q0 := 3) (ci := 3) rfl rfl hI ⟨Nat.zero_le _, Nat.zero_le _⟩ (As := [.int x1]) rfl hl.1 (rest := []) (Nat.le_of_ble_eq_true rfl) rfl d_Mach_start_18 (fun H locs hI => ?_)
    refine lv_aload_n hx hb d_Mach_start_21 rfl (lv_at hl 0 rfl) ?_
    refine gf_Mach_37 C hI d_Mach_start_22 ?_
    refine lv_aload_n hx hb d_Mach_start_25 rfl (lv_at hl 0 rfl) ?_
    refine gf_Mach_37 C hI d_Mach_start_26 ?_
    refine gf_Mach_94 C hI (v := p18.1 11) rfl d_Mach_start_29 ?_
    refine lv_iconst (v := 0) hx hb d_Mach_start_32 (by decide) ?_
    refine lv_iload_n hx hb d_Mach_start_33 rfl (lv_at hl 2 rfl) ?_
    obtain ⟨p34, hp34, h⟩ := of_bind h
    refine rb_callV sxok C (c_Room_setInt hp34) cw_Mach_97 ⟨Nat.le_of_ble_eq_true rfl, Nat.le_of_ble_eq_true rfl⟩ ⟨rfl, rfl⟩ (q0 := 3) (ci := 3) rfl rfl hI ⟨Nat.zero_le _, Nat.zero_le _⟩ (As := [.int (p18.1 11), .int 0, .int x2]) rfl hl.1 (rest := []) (Nat.le_of_ble_eq_true rfl) rfl d_Mach_start_34 (fun H locs hI => ?_)
    refine lv_aload_n hx hb d_Mach_start_37 rfl (lv_at hl 0 rfl) ?_
    refine lv_iconst (v := 0) hx hb d_Mach_start_38 (by decide) ?_
    refine pf_Mach_45 C hI (σ' := (upd p34.1 1 0, p34.2)) rfl d_Mach_start_39 (fun H locs hI => ?_)
    refine lv_aload_n hx hb d_Mach_start_42 rfl (lv_at hl 0 rfl) ?_
    refine lv_iconst (v := 0) hx hb d_Mach_start_43 (by decide) ?_
    refine pf_Mach_100 C hI (σ' := (upd (upd p34.1 1 0) 2 0, p34.2)) rfl d_Mach_start_44 (fun H locs hI => ?_)
    refine lv_aload_n hx hb d_Mach_start_47 rfl (lv_at hl 0 rfl) ?_
    refine lv_iconst (v := 0) hx hb d_Mach_start_48 (by decide) ?_
    refine pf_Mach_103 C hI (σ' := (upd (upd (upd p34.1 1 0) 2 0) 3 0, p34.2)) rfl (by decide) d_Mach_start_49 (fun H locs hI => ?_)
    refine lv_aload_n hx hb d_Mach_start_52 rfl (lv_at hl 0 rfl) ?_
    refine lv_iconst (v := 0) hx hb d_Mach_start_53 (by decide) ?_
    refine pf_Mach_106 C hI (σ' := (upd (upd (upd (upd p34.1 1 0) 2 0) 3 0) 0 0, p34.2)) rfl d_Mach_start_54 (fun H locs hI => ?_)
    refine lv_aload_n hx hb d_Mach_start_57 rfl (lv_at hl 0 rfl) ?_
    refine lv_iconst (v := 0) hx hb d_Mach_start_58 (by decide) ?_
    refine pf_Mach_109 C hI (σ' := (upd (upd (upd (upd (upd p34.1 1 0) 2 0) 3 0) 0 0) 5 0, p34.2)) rfl d_Mach_start_59 (fun H locs hI => ?_)
    refine lv_iconst (v := 1) hx hb d_Mach_start_62 (by decide) ?_
    replace h := Option.some.inj h
    subst h
    exact rb_retZ C hr (Or.inr rfl) hI d_Mach_start_63
  · replace h := of_pos hc h
    refine lv_iconst (v := 0) hx hb d_Mach_start_11 (by decide) ?_
    replace h := Option.some.inj h
    subst h
    exact rb_retZ C hr (Or.inl rfl) hI d_Mach_start_12
theorem d_Mach_state_0 : decode b_Mach_state 0 = .ok (.aload_n 0, 1) := by decide +kernel
theorem d_Mach_state_1 : decode b_Mach_state 1 = .ok (.getfield 45, 3) := by decide +kernel
theorem d_Mach_state_4 : decode b_Mach_state 4 = .ok (.ireturn, 1) := by decide +kernel
abbrev rm_Mach_state : Room := { frames := 0, cells := 0, slots := 0, locals := 0 }
set_option maxHeartbeats 4000000 in
set_option maxRecDepth 100000 in
theorem c_Mach_state {l : Launch} {dC : Nat → ClassId} {dI : Nat → Nat → Nat} {a : Nat → Nat} {cI : ClassId} {L : Nat} {tt : Nat → Nat} {σ : St} {q : Int32 × St} (h : fMach_state L σ = some q) : CI l (dC, dI) clA (tyX cI) (SXx tt) (wX a cI L σ) (wX a cI L q.2) y_Mach_state b_Mach_state 1 (some .int) rm_Mach_state [.ref (a 0)] q.1 := by
  refine CI_of (by decide) (Nat.le_of_ble_eq_true rfl) ?_
  intro pr e s m below meth c A ls C hr hl hI
  have hx := C.1
  have hb := C.2.1
  have hl : lv_has ls 1 [(0, .ref (a 0))] := hl
  unfold fMach_state at h
  refine lv_aload_n hx hb d_Mach_state_0 rfl (lv_at hl 0 rfl) ?_
  refine gf_Mach_45 C hI (v := σ.1 1) rfl d_Mach_state_1 ?_
  replace h := Option.some.inj h
  subst h
  exact rb_retI C hr hI d_Mach_state_4
theorem d_Mach_result_0 : decode b_Mach_result 0 = .ok (.aload_n 0, 1) := by decide +kernel
theorem d_Mach_result_1 : decode b_Mach_result 1 = .ok (.getfield 100, 3) := by decide +kernel
theorem d_Mach_result_4 : decode b_Mach_result 4 = .ok (.ireturn, 1) := by decide +kernel
abbrev rm_Mach_result : Room := { frames := 0, cells := 0, slots := 0, locals := 0 }
set_option maxHeartbeats 4000000 in
set_option maxRecDepth 100000 in
theorem c_Mach_result {l : Launch} {dC : Nat → ClassId} {dI : Nat → Nat → Nat} {a : Nat → Nat} {cI : ClassId} {L : Nat} {tt : Nat → Nat} {σ : St} {q : Int32 × St} (h : fMach_result L σ = some q) : CI l (dC, dI) clA (tyX cI) (SXx tt) (wX a cI L σ) (wX a cI L q.2) y_Mach_result b_Mach_result 1 (some .int) rm_Mach_result [.ref (a 0)] q.1 := by
  refine CI_of (by decide) (Nat.le_of_ble_eq_true rfl) ?_
  intro pr e s m below meth c A ls C hr hl hI
  have hx := C.1
  have hb := C.2.1
  have hl : lv_has ls 1 [(0, .ref (a 0))] := hl
  unfold fMach_result at h
  refine lv_aload_n hx hb d_Mach_result_0 rfl (lv_at hl 0 rfl) ?_
  refine gf_Mach_100 C hI (v := σ.1 2) rfl d_Mach_result_1 ?_
  replace h := Option.some.inj h
  subst h
  exact rb_retI C hr hI d_Mach_result_4
theorem d_Mach_work_0 : decode b_Mach_work 0 = .ok (.aload_n 0, 1) := by decide +kernel
theorem d_Mach_work_1 : decode b_Mach_work 1 = .ok (.getfield 109, 3) := by decide +kernel
theorem d_Mach_work_4 : decode b_Mach_work 4 = .ok (.ireturn, 1) := by decide +kernel
abbrev rm_Mach_work : Room := { frames := 0, cells := 0, slots := 0, locals := 0 }
set_option maxHeartbeats 4000000 in
set_option maxRecDepth 100000 in
theorem c_Mach_work {l : Launch} {dC : Nat → ClassId} {dI : Nat → Nat → Nat} {a : Nat → Nat} {cI : ClassId} {L : Nat} {tt : Nat → Nat} {σ : St} {q : Int32 × St} (h : fMach_work L σ = some q) : CI l (dC, dI) clA (tyX cI) (SXx tt) (wX a cI L σ) (wX a cI L q.2) y_Mach_work b_Mach_work 1 (some .int) rm_Mach_work [.ref (a 0)] q.1 := by
  refine CI_of (by decide) (Nat.le_of_ble_eq_true rfl) ?_
  intro pr e s m below meth c A ls C hr hl hI
  have hx := C.1
  have hb := C.2.1
  have hl : lv_has ls 1 [(0, .ref (a 0))] := hl
  unfold fMach_work at h
  refine lv_aload_n hx hb d_Mach_work_0 rfl (lv_at hl 0 rfl) ?_
  refine gf_Mach_109 C hI (v := σ.1 5) rfl d_Mach_work_1 ?_
  replace h := Option.some.inj h
  subst h
  exact rb_retI C hr hI d_Mach_work_4
theorem d_Mach_used_0 : decode b_Mach_used 0 = .ok (.aload_n 0, 1) := by decide +kernel
theorem d_Mach_used_1 : decode b_Mach_used 1 = .ok (.getfield 45, 3) := by decide +kernel
theorem d_Mach_used_4 : decode b_Mach_used 4 = .ok (.iconst 4, 1) := by decide +kernel
theorem d_Mach_used_5 : decode b_Mach_used 5 = .ok (.if_icmp .ne 7, 3) := by decide +kernel
theorem d_Mach_used_8 : decode b_Mach_used 8 = .ok (.iconst 0, 1) := by decide +kernel
theorem d_Mach_used_9 : decode b_Mach_used 9 = .ok (.goto 10, 3) := by decide +kernel
theorem d_Mach_used_12 : decode b_Mach_used 12 = .ok (.aload_n 0, 1) := by decide +kernel
theorem d_Mach_used_13 : decode b_Mach_used 13 = .ok (.getfield 37, 3) := by decide +kernel
theorem d_Mach_used_16 : decode b_Mach_used 16 = .ok (.invokevirtual 127, 3) := by decide +kernel
theorem d_Mach_used_19 : decode b_Mach_used 19 = .ok (.ireturn, 1) := by decide +kernel
abbrev rm_Mach_used : Room := { frames := 2, cells := 0, slots := 0, locals := 40 }
set_option maxHeartbeats 4000000 in
set_option maxRecDepth 100000 in
theorem c_Mach_used {l : Launch} {dC : Nat → ClassId} {dI : Nat → Nat → Nat} {a : Nat → Nat} {cI : ClassId} {L : Nat} {tt : Nat → Nat} {σ : St} {q : Int32 × St} (h : fMach_used L σ = some q) : CI l (dC, dI) clA (tyX cI) (SXx tt) (wX a cI L σ) (wX a cI L q.2) y_Mach_used b_Mach_used 1 (some .int) rm_Mach_used [.ref (a 0)] q.1 := by
  refine CI_of (by decide) (Nat.le_of_ble_eq_true rfl) ?_
  intro pr e s m below meth c A ls C hr hl hI
  have hx := C.1
  have hb := C.2.1
  have hl : lv_has ls 1 [(0, .ref (a 0))] := hl
  unfold fMach_used at h
  refine lv_aload_n hx hb d_Mach_used_0 rfl (lv_at hl 0 rfl) ?_
  refine gf_Mach_45 C hI (v := σ.1 1) rfl d_Mach_used_1 ?_
  refine lv_iconst (v := 4) hx hb d_Mach_used_4 (by decide) ?_
  refine lv_icmp_ne (tgt := 12) hx hb d_Mach_used_5 (by decide) (fun hc => ?_) (fun hc => ?_)
  · replace h := of_neg hc h
    refine lv_aload_n hx hb d_Mach_used_12 rfl (lv_at hl 0 rfl) ?_
    refine gf_Mach_37 C hI d_Mach_used_13 ?_
    obtain ⟨p16, hp16, h⟩ := of_bind h
    refine rb_callI sxok C (c_Room_usedCells hp16) cw_Mach_127 ⟨Nat.le_of_ble_eq_true rfl, Nat.le_of_ble_eq_true rfl⟩ ⟨rfl, rfl⟩ (q0 := 3) (ci := 3) rfl rfl hI ⟨Nat.zero_le _, Nat.zero_le _⟩ (As := []) rfl hl.1 (rest := []) (Nat.le_of_ble_eq_true rfl) rfl d_Mach_used_16 (fun H locs hI => ?_)
    replace h := Option.some.inj h
    subst h
    exact rb_retI C hr hI d_Mach_used_19
  · replace h := of_pos hc h
    refine lv_iconst (v := 0) hx hb d_Mach_used_8 (by decide) ?_
    refine lv_goto (tgt := 19) hx hb d_Mach_used_9 (by decide) ?_
    replace h := Option.some.inj h
    subst h
    exact rb_retI C hr hI d_Mach_used_19
theorem d_Mach_grey_0 : decode b_Mach_grey 0 = .ok (.aload_n 0, 1) := by decide +kernel
theorem d_Mach_grey_1 : decode b_Mach_grey 1 = .ok (.getfield 37, 3) := by decide +kernel
theorem d_Mach_grey_4 : decode b_Mach_grey 4 = .ok (.invokevirtual 131, 3) := by decide +kernel
theorem d_Mach_grey_7 : decode b_Mach_grey 7 = .ok (.ireturn, 1) := by decide +kernel
abbrev rm_Mach_grey : Room := { frames := 1, cells := 0, slots := 0, locals := 20 }
set_option maxHeartbeats 4000000 in
set_option maxRecDepth 100000 in
theorem c_Mach_grey {l : Launch} {dC : Nat → ClassId} {dI : Nat → Nat → Nat} {a : Nat → Nat} {cI : ClassId} {L : Nat} {tt : Nat → Nat} {σ : St} {q : Int32 × St} (h : fMach_grey L σ = some q) : CI l (dC, dI) clA (tyX cI) (SXx tt) (wX a cI L σ) (wX a cI L q.2) y_Mach_grey b_Mach_grey 1 (some .int) rm_Mach_grey [.ref (a 0)] q.1 := by
  refine CI_of (by decide) (Nat.le_of_ble_eq_true rfl) ?_
  intro pr e s m below meth c A ls C hr hl hI
  have hx := C.1
  have hb := C.2.1
  have hl : lv_has ls 1 [(0, .ref (a 0))] := hl
  unfold fMach_grey at h
  refine lv_aload_n hx hb d_Mach_grey_0 rfl (lv_at hl 0 rfl) ?_
  refine gf_Mach_37 C hI d_Mach_grey_1 ?_
  obtain ⟨p4, hp4, h⟩ := of_bind h
  refine rb_callI sxok C (c_Room_cellsToScan hp4) cw_Mach_131 ⟨Nat.le_of_ble_eq_true rfl, Nat.le_of_ble_eq_true rfl⟩ ⟨rfl, rfl⟩ (q0 := 3) (ci := 3) rfl rfl hI ⟨Nat.zero_le _, Nat.zero_le _⟩ (As := []) rfl hl.1 (rest := []) (Nat.le_of_ble_eq_true rfl) rfl d_Mach_grey_4 (fun H locs hI => ?_)
  replace h := Option.some.inj h
  subst h
  exact rb_retI C hr hI d_Mach_grey_7
theorem d_Mach_flips_0 : decode b_Mach_flips 0 = .ok (.aload_n 0, 1) := by decide +kernel
theorem d_Mach_flips_1 : decode b_Mach_flips 1 = .ok (.getfield 37, 3) := by decide +kernel
theorem d_Mach_flips_4 : decode b_Mach_flips 4 = .ok (.getfield 134, 3) := by decide +kernel
theorem d_Mach_flips_7 : decode b_Mach_flips 7 = .ok (.ireturn, 1) := by decide +kernel
abbrev rm_Mach_flips : Room := { frames := 0, cells := 0, slots := 0, locals := 0 }
set_option maxHeartbeats 4000000 in
set_option maxRecDepth 100000 in
theorem c_Mach_flips {l : Launch} {dC : Nat → ClassId} {dI : Nat → Nat → Nat} {a : Nat → Nat} {cI : ClassId} {L : Nat} {tt : Nat → Nat} {σ : St} {q : Int32 × St} (h : fMach_flips L σ = some q) : CI l (dC, dI) clA (tyX cI) (SXx tt) (wX a cI L σ) (wX a cI L q.2) y_Mach_flips b_Mach_flips 1 (some .int) rm_Mach_flips [.ref (a 0)] q.1 := by
  refine CI_of (by decide) (Nat.le_of_ble_eq_true rfl) ?_
  intro pr e s m below meth c A ls C hr hl hI
  have hx := C.1
  have hb := C.2.1
  have hl : lv_has ls 1 [(0, .ref (a 0))] := hl
  unfold fMach_flips at h
  refine lv_aload_n hx hb d_Mach_flips_0 rfl (lv_at hl 0 rfl) ?_
  refine gf_Mach_37 C hI d_Mach_flips_1 ?_
  refine gf_Mach_134 C hI (v := σ.1 18) rfl d_Mach_flips_4 ?_
  replace h := Option.some.inj h
  subst h
  exact rb_retI C hr hI d_Mach_flips_7
theorem d_Mach_depth_0 : decode b_Mach_depth 0 = .ok (.aload_n 0, 1) := by decide +kernel
theorem d_Mach_depth_1 : decode b_Mach_depth 1 = .ok (.getfield 45, 3) := by decide +kernel
theorem d_Mach_depth_4 : decode b_Mach_depth 4 = .ok (.iconst 4, 1) := by decide +kernel
theorem d_Mach_depth_5 : decode b_Mach_depth 5 = .ok (.if_icmp .ne 7, 3) := by decide +kernel
theorem d_Mach_depth_8 : decode b_Mach_depth 8 = .ok (.iconst 0, 1) := by decide +kernel
theorem d_Mach_depth_9 : decode b_Mach_depth 9 = .ok (.goto 10, 3) := by decide +kernel
theorem d_Mach_depth_12 : decode b_Mach_depth 12 = .ok (.aload_n 0, 1) := by decide +kernel
theorem d_Mach_depth_13 : decode b_Mach_depth 13 = .ok (.getfield 37, 3) := by decide +kernel
theorem d_Mach_depth_16 : decode b_Mach_depth 16 = .ok (.invokevirtual 137, 3) := by decide +kernel
theorem d_Mach_depth_19 : decode b_Mach_depth 19 = .ok (.ireturn, 1) := by decide +kernel
abbrev rm_Mach_depth : Room := { frames := 3, cells := 0, slots := 0, locals := 66 }
set_option maxHeartbeats 4000000 in
set_option maxRecDepth 100000 in
theorem c_Mach_depth {l : Launch} {dC : Nat → ClassId} {dI : Nat → Nat → Nat} {a : Nat → Nat} {cI : ClassId} {L : Nat} {tt : Nat → Nat} {σ : St} {q : Int32 × St} (h : fMach_depth L σ = some q) : CI l (dC, dI) clA (tyX cI) (SXx tt) (wX a cI L σ) (wX a cI L q.2) y_Mach_depth b_Mach_depth 1 (some .int) rm_Mach_depth [.ref (a 0)] q.1 := by
  refine CI_of (by decide) (Nat.le_of_ble_eq_true rfl) ?_
  intro pr e s m below meth c A ls C hr hl hI
  have hx := C.1
  have hb := C.2.1
  have hl : lv_has ls 1 [(0, .ref (a 0))] := hl
  unfold fMach_depth at h
  refine lv_aload_n hx hb d_Mach_depth_0 rfl (lv_at hl 0 rfl) ?_
  refine gf_Mach_45 C hI (v := σ.1 1) rfl d_Mach_depth_1 ?_
  refine lv_iconst (v := 4) hx hb d_Mach_depth_4 (by decide) ?_
  refine lv_icmp_ne (tgt := 12) hx hb d_Mach_depth_5 (by decide) (fun hc => ?_) (fun hc => ?_)
  · replace h := of_neg hc h
    refine lv_aload_n hx hb d_Mach_depth_12 rfl (lv_at hl 0 rfl) ?_
    refine gf_Mach_37 C hI d_Mach_depth_13 ?_
    obtain ⟨p16, hp16, h⟩ := of_bind h
    refine rb_callI sxok C (c_Room_countFrames hp16) cw_Mach_137 ⟨Nat.le_of_ble_eq_true rfl, Nat.le_of_ble_eq_true rfl⟩ ⟨rfl, rfl⟩ (q0 := 3) (ci := 3) rfl rfl hI ⟨Nat.zero_le _, Nat.zero_le _⟩ (As := []) rfl hl.1 (rest := []) (Nat.le_of_ble_eq_true rfl) rfl d_Mach_depth_16 (fun H locs hI => ?_)
    replace h := Option.some.inj h
    subst h
    exact rb_retI C hr hI d_Mach_depth_19
  · replace h := of_pos hc h
    refine lv_iconst (v := 0) hx hb d_Mach_depth_8 (by decide) ?_
    refine lv_goto (tgt := 19) hx hb d_Mach_depth_9 (by decide) ?_
    replace h := Option.some.inj h
    subst h
    exact rb_retI C hr hI d_Mach_depth_19
theorem d_Mach_live_0 : decode b_Mach_live 0 = .ok (.aload_n 0, 1) := by decide +kernel
theorem d_Mach_live_1 : decode b_Mach_live 1 = .ok (.getfield 45, 3) := by decide +kernel
theorem d_Mach_live_4 : decode b_Mach_live 4 = .ok (.iconst 4, 1) := by decide +kernel
theorem d_Mach_live_5 : decode b_Mach_live 5 = .ok (.if_icmp .ne 7, 3) := by decide +kernel
theorem d_Mach_live_8 : decode b_Mach_live 8 = .ok (.iconst 0, 1) := by decide +kernel
theorem d_Mach_live_9 : decode b_Mach_live 9 = .ok (.goto 10, 3) := by decide +kernel
theorem d_Mach_live_12 : decode b_Mach_live 12 = .ok (.aload_n 0, 1) := by decide +kernel
theorem d_Mach_live_13 : decode b_Mach_live 13 = .ok (.getfield 37, 3) := by decide +kernel
theorem d_Mach_live_16 : decode b_Mach_live 16 = .ok (.invokevirtual 140, 3) := by decide +kernel
theorem d_Mach_live_19 : decode b_Mach_live 19 = .ok (.ireturn, 1) := by decide +kernel
abbrev rm_Mach_live : Room := { frames := 3, cells := 0, slots := 0, locals := 70 }
set_option maxHeartbeats 4000000 in
set_option maxRecDepth 100000 in
theorem c_Mach_live {l : Launch} {dC : Nat → ClassId} {dI : Nat → Nat → Nat} {a : Nat → Nat} {cI : ClassId} {L : Nat} {tt : Nat → Nat} {σ : St} {q : Int32 × St} (h : fMach_live L σ = some q) : CI l (dC, dI) clA (tyX cI) (SXx tt) (wX a cI L σ) (wX a cI L q.2) y_Mach_live b_Mach_live 1 (some .int) rm_Mach_live [.ref (a 0)] q.1 := by
  refine CI_of (by decide) (Nat.le_of_ble_eq_true rfl) ?_
  intro pr e s m below meth c A ls C hr hl hI
  have hx := C.1
  have hb := C.2.1
  have hl : lv_has ls 1 [(0, .ref (a 0))] := hl
  unfold fMach_live at h
  refine lv_aload_n hx hb d_Mach_live_0 rfl (lv_at hl 0 rfl) ?_
  refine gf_Mach_45 C hI (v := σ.1 1) rfl d_Mach_live_1 ?_
  refine lv_iconst (v := 4) hx hb d_Mach_live_4 (by decide) ?_
  refine lv_icmp_ne (tgt := 12) hx hb d_Mach_live_5 (by decide) (fun hc => ?_) (fun hc => ?_)
  · replace h := of_neg hc h
    refine lv_aload_n hx hb d_Mach_live_12 rfl (lv_at hl 0 rfl) ?_
    refine gf_Mach_37 C hI d_Mach_live_13 ?_
    obtain ⟨p16, hp16, h⟩ := of_bind h
    refine rb_callI sxok C (c_Room_countReachableCells hp16) cw_Mach_140 ⟨Nat.le_of_ble_eq_true rfl, Nat.le_of_ble_eq_true rfl⟩ ⟨rfl, rfl⟩ (q0 := 3) (ci := 3) rfl rfl hI ⟨Nat.zero_le _, Nat.zero_le _⟩ (As := []) rfl hl.1 (rest := []) (Nat.le_of_ble_eq_true rfl) rfl d_Mach_live_16 (fun H locs hI => ?_)
    replace h := Option.some.inj h
    subst h
    exact rb_retI C hr hI d_Mach_live_19
  · replace h := of_pos hc h
    refine lv_iconst (v := 0) hx hb d_Mach_live_8 (by decide) ?_
    refine lv_goto (tgt := 19) hx hb d_Mach_live_9 (by decide) ?_
    replace h := Option.some.inj h
    subst h
    exact rb_retI C hr hI d_Mach_live_19
theorem d_Mach_number_0 : decode b_Mach_number 0 = .ok (.aload_n 0, 1) := by decide +kernel
theorem d_Mach_number_1 : decode b_Mach_number 1 = .ok (.getfield 45, 3) := by decide +kernel
theorem d_Mach_number_4 : decode b_Mach_number 4 = .ok (.iconst 4, 1) := by decide +kernel
theorem d_Mach_number_5 : decode b_Mach_number 5 = .ok (.if_icmp .eq 12, 3) := by decide +kernel
theorem d_Mach_number_8 : decode b_Mach_number 8 = .ok (.iload_n 1, 1) := by decide +kernel
theorem d_Mach_number_9 : decode b_Mach_number 9 = .ok (.ifCond .lt 8, 3) := by decide +kernel
theorem d_Mach_number_12 : decode b_Mach_number 12 = .ok (.iload_n 1, 1) := by decide +kernel
theorem d_Mach_number_13 : decode b_Mach_number 13 = .ok (.iconst 3, 1) := by decide +kernel
theorem d_Mach_number_14 : decode b_Mach_number 14 = .ok (.if_icmp .le 5, 3) := by decide +kernel
theorem d_Mach_number_17 : decode b_Mach_number 17 = .ok (.iconst 0, 1) := by decide +kernel
theorem d_Mach_number_18 : decode b_Mach_number 18 = .ok (.ireturn, 1) := by decide +kernel
theorem d_Mach_number_19 : decode b_Mach_number 19 = .ok (.aload_n 0, 1) := by decide +kernel
theorem d_Mach_number_20 : decode b_Mach_number 20 = .ok (.getfield 37, 3) := by decide +kernel
theorem d_Mach_number_23 : decode b_Mach_number 23 = .ok (.aload_n 0, 1) := by decide +kernel
theorem d_Mach_number_24 : decode b_Mach_number 24 = .ok (.getfield 37, 3) := by decide +kernel
theorem d_Mach_number_27 : decode b_Mach_number 27 = .ok (.getfield 94, 3) := by decide +kernel
theorem d_Mach_number_30 : decode b_Mach_number 30 = .ok (.iload_n 1, 1) := by decide +kernel
theorem d_Mach_number_31 : decode b_Mach_number 31 = .ok (.invokevirtual 155, 3) := by decide +kernel
theorem d_Mach_number_34 : decode b_Mach_number 34 = .ok (.ireturn, 1) := by decide +kernel
abbrev rm_Mach_number : Room := { frames := 3, cells := 0, slots := 0, locals := 63 }
set_option maxHeartbeats 4000000 in
set_option maxRecDepth 100000 in
theorem c_Mach_number {l : Launch} {dC : Nat → ClassId} {dI : Nat → Nat → Nat} {a : Nat → Nat} {cI : ClassId} {L : Nat} {tt : Nat → Nat} {σ : St} {x1 : Int32} {q : Int32 × St} (h : fMach_number L σ x1 = some q) : CI l (dC, dI) clA (tyX cI) (SXx tt) (wX a cI L σ) (wX a cI L q.2) y_Mach_number b_Mach_number 2 (some .int) rm_Mach_number [.ref (a 0), .int x1] q.1 := by
  refine CI_of (by decide) (Nat.le_of_ble_eq_true rfl) ?_
  intro pr e s m below meth c A ls C hr hl hI
  have hx := C.1
  have hb := C.2.1
  have hl : lv_has ls 2 [(0, .ref (a 0)), (1, .int x1)] := hl
  unfold fMach_number at h
  refine lv_aload_n hx hb d_Mach_number_0 rfl (lv_at hl 0 rfl) ?_
  refine gf_Mach_45 C hI (v := σ.1 1) rfl d_Mach_number_1 ?_
  refine lv_iconst (v := 4) hx hb d_Mach_number_4 (by decide) ?_
  refine lv_icmp_eq (tgt := 17) hx hb d_Mach_number_5 (by decide) (fun hc => ?_) (fun hc => ?_)
  · replace h := of_pos hc h
    refine lv_iconst (v := 0) hx hb d_Mach_number_17 (by decide) ?_
    replace h := Option.some.inj h
    subst h
    exact rb_retI C hr hI d_Mach_number_18
  · replace h := of_neg hc h
    refine lv_iload_n hx hb d_Mach_number_8 rfl (lv_at hl 1 rfl) ?_
    refine lv_if_lt (tgt := 17) hx hb d_Mach_number_9 (by decide) (fun hc => ?_) (fun hc => ?_)
    · replace h := of_pos hc h
      refine lv_iconst (v := 0) hx hb d_Mach_number_17 (by decide) ?_
      replace h := Option.some.inj h
      subst h
      exact rb_retI C hr hI d_Mach_number_18
    · replace h := of_neg hc h
      refine lv_iload_n hx hb d_Mach_number_12 rfl (lv_at hl 1 rfl) ?_
      refine lv_iconst (v := 3) hx hb d_Mach_number_13 (by decide) ?_
      refine lv_icmp_le (tgt := 19) hx hb d_Mach_number_14 (by decide) (fun hc => ?_) (fun hc => ?_)
      · replace h := of_pos hc h
        refine lv_aload_n hx hb d_Mach_number_19 rfl (lv_at hl 0 rfl) ?_
        refine gf_Mach_37 C hI d_Mach_number_20 ?_
        refine lv_aload_n hx hb d_Mach_number_23 rfl (lv_at hl 0 rfl) ?_
        refine gf_Mach_37 C hI d_Mach_number_24 ?_
        refine gf_Mach_94 C hI (v := σ.1 11) rfl d_Mach_number_27 ?_
        refine lv_iload_n hx hb d_Mach_number_30 rfl (lv_at hl 1 rfl) ?_
        obtain ⟨p31, hp31, h⟩ := of_bind h
        refine rb_callI sxok C (c_Room_intOf hp31) cw_Mach_155 ⟨Nat.le_of_ble_eq_true rfl, Nat.le_of_ble_eq_true rfl⟩ ⟨rfl, rfl⟩ (q0 := 3) (ci := 3) rfl rfl hI ⟨Nat.zero_le _, Nat.zero_le _⟩ (As := [.int (σ.1 11), .int x1]) rfl hl.1 (rest := []) (Nat.le_of_ble_eq_true rfl) rfl d_Mach_number_31 (fun H locs hI => ?_)
        replace h := Option.some.inj h
        subst h
        exact rb_retI C hr hI d_Mach_number_34
      · replace h := of_neg hc h
        refine lv_iconst (v := 0) hx hb d_Mach_number_17 (by decide) ?_
        replace h := Option.some.inj h
        subst h
        exact rb_retI C hr hI d_Mach_number_18
theorem d_Mach_isRegister_0 : decode b_Mach_isRegister 0 = .ok (.iload_n 0, 1) := by decide +kernel
theorem d_Mach_isRegister_1 : decode b_Mach_isRegister 1 = .ok (.ifCond .lt 12, 3) := by decide +kernel
theorem d_Mach_isRegister_4 : decode b_Mach_isRegister 4 = .ok (.iload_n 0, 1) := by decide +kernel
theorem d_Mach_isRegister_5 : decode b_Mach_isRegister 5 = .ok (.iconst 3, 1) := by decide +kernel
theorem d_Mach_isRegister_6 : decode b_Mach_isRegister 6 = .ok (.if_icmp .ge 7, 3) := by decide +kernel
theorem d_Mach_isRegister_9 : decode b_Mach_isRegister 9 = .ok (.iconst 1, 1) := by decide +kernel
theorem d_Mach_isRegister_10 : decode b_Mach_isRegister 10 = .ok (.goto 4, 3) := by decide +kernel
theorem d_Mach_isRegister_13 : decode b_Mach_isRegister 13 = .ok (.iconst 0, 1) := by decide +kernel
theorem d_Mach_isRegister_14 : decode b_Mach_isRegister 14 = .ok (.ireturn, 1) := by decide +kernel
abbrev rm_Mach_isRegister : Room := { frames := 0, cells := 0, slots := 0, locals := 0 }
set_option maxHeartbeats 4000000 in
set_option maxRecDepth 100000 in
theorem c_Mach_isRegister {l : Launch} {dC : Nat → ClassId} {dI : Nat → Nat → Nat} {a : Nat → Nat} {cI : ClassId} {L : Nat} {tt : Nat → Nat} {σ : St} {x0 : Int32} {q : Int32 × St} (h : fMach_isRegister L σ x0 = some q) : CI l (dC, dI) clA (tyX cI) (SXx tt) (wX a cI L σ) (wX a cI L q.2) y_Mach_isRegister b_Mach_isRegister 1 (some .boolean) rm_Mach_isRegister [.int x0] q.1 := by
  refine CI_of (by decide) (Nat.le_of_ble_eq_true rfl) ?_
  intro pr e s m below meth c A ls C hr hl hI
  have hx := C.1
  have hb := C.2.1
  have hl : lv_has ls 1 [(0, .int x0)] := hl
  unfold fMach_isRegister at h
  refine lv_iload_n hx hb d_Mach_isRegister_0 rfl (lv_at hl 0 rfl) ?_
  refine lv_if_lt (tgt := 13) hx hb d_Mach_isRegister_1 (by decide) (fun hc => ?_) (fun hc => ?_)
  · replace h := of_pos hc h
    refine lv_iconst (v := 0) hx hb d_Mach_isRegister_13 (by decide) ?_
    replace h := Option.some.inj h
    subst h
    exact rb_retZ C hr (Or.inl rfl) hI d_Mach_isRegister_14
  · replace h := of_neg hc h
    refine lv_iload_n hx hb d_Mach_isRegister_4 rfl (lv_at hl 0 rfl) ?_
    refine lv_iconst (v := 3) hx hb d_Mach_isRegister_5 (by decide) ?_
    refine lv_icmp_ge (tgt := 13) hx hb d_Mach_isRegister_6 (by decide) (fun hc => ?_) (fun hc => ?_)
    · replace h := of_pos hc h
      refine lv_iconst (v := 0) hx hb d_Mach_isRegister_13 (by decide) ?_
      replace h := Option.some.inj h
      subst h
      exact rb_retZ C hr (Or.inl rfl) hI d_Mach_isRegister_14
    · replace h := of_neg hc h
      refine lv_iconst (v := 1) hx hb d_Mach_isRegister_9 (by decide) ?_
      refine lv_goto (tgt := 14) hx hb d_Mach_isRegister_10 (by decide) ?_
      replace h := Option.some.inj h
      subst h
      exact rb_retZ C hr (Or.inr rfl) hI d_Mach_isRegister_14
theorem d_Mach_slotOfShown_0 : decode b_Mach_slotOfShown 0 = .ok (.iload_n 0, 1) := by decide +kernel
theorem d_Mach_slotOfShown_1 : decode b_Mach_slotOfShown 1 = .ok (.bipush 7, 2) := by decide +kernel
theorem d_Mach_slotOfShown_3 : decode b_Mach_slotOfShown 3 = .ok (.iand, 1) := by decide +kernel
theorem d_Mach_slotOfShown_4 : decode b_Mach_slotOfShown 4 = .ok (.ireturn, 1) := by decide +kernel
abbrev rm_Mach_slotOfShown : Room := { frames := 0, cells := 0, slots := 0, locals := 0 }
set_option maxHeartbeats 4000000 in
set_option maxRecDepth 100000 in
theorem c_Mach_slotOfShown {l : Launch} {dC : Nat → ClassId} {dI : Nat → Nat → Nat} {a : Nat → Nat} {cI : ClassId} {L : Nat} {tt : Nat → Nat} {σ : St} {x0 : Int32} {q : Int32 × St} (h : fMach_slotOfShown L σ x0 = some q) : CI l (dC, dI) clA (tyX cI) (SXx tt) (wX a cI L σ) (wX a cI L q.2) y_Mach_slotOfShown b_Mach_slotOfShown 1 (some .int) rm_Mach_slotOfShown [.int x0] q.1 := by
  refine CI_of (by decide) (Nat.le_of_ble_eq_true rfl) ?_
  intro pr e s m below meth c A ls C hr hl hI
  have hx := C.1
  have hb := C.2.1
  have hl : lv_has ls 1 [(0, .int x0)] := hl
  unfold fMach_slotOfShown at h
  refine lv_iload_n hx hb d_Mach_slotOfShown_0 rfl (lv_at hl 0 rfl) ?_
  refine lv_bipush (v := 7) hx hb d_Mach_slotOfShown_1 (by decide) ?_
  refine lv_iand hx hb d_Mach_slotOfShown_3 ?_
  replace h := Option.some.inj h
  subst h
  exact rb_retI C hr hI d_Mach_slotOfShown_4
theorem d_Mach_shown_0 : decode b_Mach_shown 0 = .ok (.iload_n 1, 1) := by decide +kernel
theorem d_Mach_shown_1 : decode b_Mach_shown 1 = .ok (.iconst (-1), 1) := by decide +kernel
theorem d_Mach_shown_2 : decode b_Mach_shown 2 = .ok (.if_icmp .ne 8, 3) := by decide +kernel
theorem d_Mach_shown_5 : decode b_Mach_shown 5 = .ok (.aload_n 0, 1) := by decide +kernel
theorem d_Mach_shown_6 : decode b_Mach_shown 6 = .ok (.getfield 106, 3) := by decide +kernel
theorem d_Mach_shown_9 : decode b_Mach_shown 9 = .ok (.ireturn, 1) := by decide +kernel
theorem d_Mach_shown_10 : decode b_Mach_shown 10 = .ok (.iload_n 1, 1) := by decide +kernel
theorem d_Mach_shown_11 : decode b_Mach_shown 11 = .ok (.ifCond .lt 17, 3) := by decide +kernel
theorem d_Mach_shown_14 : decode b_Mach_shown 14 = .ok (.iload_n 1, 1) := by decide +kernel
theorem d_Mach_shown_15 : decode b_Mach_shown 15 = .ok (.bipush 8, 2) := by decide +kernel
theorem d_Mach_shown_17 : decode b_Mach_shown 17 = .ok (.if_icmp .ge 11, 3) := by decide +kernel
theorem d_Mach_shown_20 : decode b_Mach_shown 20 = .ok (.iload_n 1, 1) := by decide +kernel
theorem d_Mach_shown_21 : decode b_Mach_shown 21 = .ok (.aload_n 0, 1) := by decide +kernel
theorem d_Mach_shown_22 : decode b_Mach_shown 22 = .ok (.getfield 106, 3) := by decide +kernel
theorem d_Mach_shown_25 : decode b_Mach_shown 25 = .ok (.if_icmp .lt 5, 3) := by decide +kernel
theorem d_Mach_shown_28 : decode b_Mach_shown 28 = .ok (.iconst 0, 1) := by decide +kernel
theorem d_Mach_shown_29 : decode b_Mach_shown 29 = .ok (.ireturn, 1) := by decide +kernel
theorem d_Mach_shown_30 : decode b_Mach_shown 30 = .ok (.aload_n 0, 1) := by decide +kernel
theorem d_Mach_shown_31 : decode b_Mach_shown 31 = .ok (.getfield 41, 3) := by decide +kernel
theorem d_Mach_shown_34 : decode b_Mach_shown 34 = .ok (.aload_n 0, 1) := by decide +kernel
theorem d_Mach_shown_35 : decode b_Mach_shown 35 = .ok (.getfield 106, 3) := by decide +kernel
theorem d_Mach_shown_38 : decode b_Mach_shown 38 = .ok (.iconst 1, 1) := by decide +kernel
theorem d_Mach_shown_39 : decode b_Mach_shown 39 = .ok (.isub, 1) := by decide +kernel
theorem d_Mach_shown_40 : decode b_Mach_shown 40 = .ok (.iload_n 1, 1) := by decide +kernel
theorem d_Mach_shown_41 : decode b_Mach_shown 41 = .ok (.isub, 1) := by decide +kernel
theorem d_Mach_shown_42 : decode b_Mach_shown 42 = .ok (.invokestatic 124, 3) := by decide +kernel
theorem d_Mach_shown_45 : decode b_Mach_shown 45 = .ok (.iaload, 1) := by decide +kernel
theorem d_Mach_shown_46 : decode b_Mach_shown 46 = .ok (.ireturn, 1) := by decide +kernel
abbrev rm_Mach_shown : Room := { frames := 1, cells := 0, slots := 0, locals := 20 }
set_option maxHeartbeats 4000000 in
set_option maxRecDepth 100000 in
theorem c_Mach_shown {l : Launch} {dC : Nat → ClassId} {dI : Nat → Nat → Nat} {a : Nat → Nat} {cI : ClassId} {L : Nat} {tt : Nat → Nat} {σ : St} {x1 : Int32} {q : Int32 × St} (h : fMach_shown L σ x1 = some q) : CI l (dC, dI) clA (tyX cI) (SXx tt) (wX a cI L σ) (wX a cI L q.2) y_Mach_shown b_Mach_shown 2 (some .int) rm_Mach_shown [.ref (a 0), .int x1] q.1 := by
  refine CI_of (by decide) (Nat.le_of_ble_eq_true rfl) ?_
  intro pr e s m below meth c A ls C hr hl hI
  have hx := C.1
  have hb := C.2.1
  have hl : lv_has ls 2 [(0, .ref (a 0)), (1, .int x1)] := hl
  unfold fMach_shown at h
  refine lv_iload_n hx hb d_Mach_shown_0 rfl (lv_at hl 1 rfl) ?_
  refine lv_iconst (v := (-1)) hx hb d_Mach_shown_1 (by decide) ?_
  refine lv_icmp_ne (tgt := 10) hx hb d_Mach_shown_2 (by decide) (fun hc => ?_) (fun hc => ?_)
  · replace h := of_neg hc h
    refine lv_iload_n hx hb d_Mach_shown_10 rfl (lv_at hl 1 rfl) ?_
    refine lv_if_lt (tgt := 28) hx hb d_Mach_shown_11 (by decide) (fun hc => ?_) (fun hc => ?_)
    · replace h := of_pos hc h
      refine lv_iconst (v := 0) hx hb d_Mach_shown_28 (by decide) ?_
      replace h := Option.some.inj h
      subst h
      exact rb_retI C hr hI d_Mach_shown_29
    · replace h := of_neg hc h
      refine lv_iload_n hx hb d_Mach_shown_14 rfl (lv_at hl 1 rfl) ?_
      refine lv_bipush (v := 8) hx hb d_Mach_shown_15 (by decide) ?_
      refine lv_icmp_ge (tgt := 28) hx hb d_Mach_shown_17 (by decide) (fun hc => ?_) (fun hc => ?_)
      · replace h := of_pos hc h
        refine lv_iconst (v := 0) hx hb d_Mach_shown_28 (by decide) ?_
        replace h := Option.some.inj h
        subst h
        exact rb_retI C hr hI d_Mach_shown_29
      · replace h := of_neg hc h
        refine lv_iload_n hx hb d_Mach_shown_20 rfl (lv_at hl 1 rfl) ?_
        refine lv_aload_n hx hb d_Mach_shown_21 rfl (lv_at hl 0 rfl) ?_
        refine gf_Mach_106 C hI (v := σ.1 0) rfl d_Mach_shown_22 ?_
        refine lv_icmp_lt (tgt := 30) hx hb d_Mach_shown_25 (by decide) (fun hc => ?_) (fun hc => ?_)
        · replace h := of_pos hc h
          refine lv_aload_n hx hb d_Mach_shown_30 rfl (lv_at hl 0 rfl) ?_
          refine gf_Mach_41 C hI d_Mach_shown_31 ?_
          refine lv_aload_n hx hb d_Mach_shown_34 rfl (lv_at hl 0 rfl) ?_
          refine gf_Mach_106 C hI (v := σ.1 0) rfl d_Mach_shown_35 ?_
          refine lv_iconst (v := 1) hx hb d_Mach_shown_38 (by decide) ?_
          refine lv_isub hx hb d_Mach_shown_39 ?_
          refine lv_iload_n hx hb d_Mach_shown_40 rfl (lv_at hl 1 rfl) ?_
          refine lv_isub hx hb d_Mach_shown_41 ?_
          obtain ⟨p42, hp42, h⟩ := of_bind h
          refine rb_callSI sxok C (c_Mach_slotOfShown hp42) cw_Mach_124 ⟨Nat.le_of_ble_eq_true rfl, Nat.le_of_ble_eq_true rfl⟩ ⟨rfl, rfl⟩ hI ⟨Nat.zero_le _, Nat.zero_le _⟩ (As := [.int (((σ.1 0) - 1) - x1)]) rfl hl.1 (rest := [.ref (a 4)]) (Nat.le_of_ble_eq_true rfl) rfl d_Mach_shown_42 (fun H locs hI => ?_)
          obtain ⟨hg45, h⟩ := of_guard h
          refine al_X_0 C hI (f := p42.2.2 0) rfl hg45 d_Mach_shown_45 ?_
          replace h := Option.some.inj h
          subst h
          exact rb_retI C hr hI d_Mach_shown_46
        · replace h := of_neg hc h
          refine lv_iconst (v := 0) hx hb d_Mach_shown_28 (by decide) ?_
          replace h := Option.some.inj h
          subst h
          exact rb_retI C hr hI d_Mach_shown_29
  · replace h := of_pos hc h
    refine lv_aload_n hx hb d_Mach_shown_5 rfl (lv_at hl 0 rfl) ?_
    refine gf_Mach_106 C hI (v := σ.1 0) rfl d_Mach_shown_6 ?_
    replace h := Option.some.inj h
    subst h
    exact rb_retI C hr hI d_Mach_shown_9
theorem d_Mach_doNew_0 : decode b_Mach_doNew 0 = .ok (.aload_n 0, 1) := by decide +kernel
theorem d_Mach_doNew_1 : decode b_Mach_doNew 1 = .ok (.getfield 37, 3) := by decide +kernel
theorem d_Mach_doNew_4 : decode b_Mach_doNew 4 = .ok (.aload_n 0, 1) := by decide +kernel
theorem d_Mach_doNew_5 : decode b_Mach_doNew 5 = .ok (.getfield 10, 3) := by decide +kernel
theorem d_Mach_doNew_8 : decode b_Mach_doNew 8 = .ok (.iload_n 2, 1) := by decide +kernel
theorem d_Mach_doNew_9 : decode b_Mach_doNew 9 = .ok (.invokevirtual 242, 3) := by decide +kernel
theorem d_Mach_doNew_12 : decode b_Mach_doNew 12 = .ok (.invokevirtual 245, 3) := by decide +kernel
theorem d_Mach_doNew_15 : decode b_Mach_doNew 15 = .ok (.istore_n 3, 1) := by decide +kernel
theorem d_Mach_doNew_16 : decode b_Mach_doNew 16 = .ok (.aload_n 0, 1) := by decide +kernel
theorem d_Mach_doNew_17 : decode b_Mach_doNew 17 = .ok (.getfield 37, 3) := by decide +kernel
theorem d_Mach_doNew_20 : decode b_Mach_doNew 20 = .ok (.getfield 121, 3) := by decide +kernel
theorem d_Mach_doNew_23 : decode b_Mach_doNew 23 = .ok (.ifCond .ne 19, 3) := by decide +kernel
theorem d_Mach_doNew_26 : decode b_Mach_doNew 26 = .ok (.aload_n 0, 1) := by decide +kernel
theorem d_Mach_doNew_27 : decode b_Mach_doNew 27 = .ok (.getfield 37, 3) := by decide +kernel
theorem d_Mach_doNew_30 : decode b_Mach_doNew 30 = .ok (.aload_n 0, 1) := by decide +kernel
theorem d_Mach_doNew_31 : decode b_Mach_doNew 31 = .ok (.getfield 37, 3) := by decide +kernel
theorem d_Mach_doNew_34 : decode b_Mach_doNew 34 = .ok (.getfield 94, 3) := by decide +kernel
theorem d_Mach_doNew_37 : decode b_Mach_doNew 37 = .ok (.iload_n 1, 1) := by decide +kernel
theorem d_Mach_doNew_38 : decode b_Mach_doNew 38 = .ok (.iload_n 3, 1) := by decide +kernel
theorem d_Mach_doNew_39 : decode b_Mach_doNew 39 = .ok (.invokevirtual 209, 3) := by decide +kernel
theorem d_Mach_doNew_42 : decode b_Mach_doNew 42 = .ok (.return_, 1) := by decide +kernel
abbrev rm_Mach_doNew : Room := { frames := 5, cells := 0, slots := 0, locals := 156 }
set_option maxHeartbeats 4000000 in
set_option maxRecDepth 100000 in
theorem c_Mach_doNew {l : Launch} {dC : Nat → ClassId} {dI : Nat → Nat → Nat} {a : Nat → Nat} {cI : ClassId} {L : Nat} {tt : Nat → Nat} {σ : St} {x1 x2 : Int32} {q : St} (h : fMach_doNew L σ x1 x2 = some q) : CV l (dC, dI) clA (tyX cI) (SXx tt) (wX a cI L σ) (wX a cI L q) y_Mach_doNew b_Mach_doNew 4 none rm_Mach_doNew [.ref (a 0), .int x1, .int x2] := by
  refine CV_of (by decide) (Nat.le_of_ble_eq_true rfl) ?_
  intro pr e s m below meth c A ls C hr hl hI
  have hx := C.1
  have hb := C.2.1
  have hl : lv_has ls 4 [(0, .ref (a 0)), (1, .int x1), (2, .int x2)] := hl
  unfold fMach_doNew at h
  refine lv_aload_n hx hb d_Mach_doNew_0 rfl (lv_at hl 0 rfl) ?_
  refine gf_Mach_37 C hI d_Mach_doNew_1 ?_
  refine lv_aload_n hx hb d_Mach_doNew_4 rfl (lv_at hl 0 rfl) ?_
  refine gf_Mach_10 C hI d_Mach_doNew_5 ?_
  refine lv_iload_n hx hb d_Mach_doNew_8 rfl (lv_at hl 2 rfl) ?_
  obtain ⟨p9, hp9, h⟩ := of_bind h
  refine rb_callI sxok C (c_Kinds_headOf hp9) cw_Mach_242 ⟨Nat.le_of_ble_eq_true rfl, Nat.le_of_ble_eq_true rfl⟩ ⟨rfl, rfl⟩ (q0 := 1) (ci := 1) rfl rfl hI ⟨Nat.zero_le _, Nat.zero_le _⟩ (As := [.int x2]) rfl hl.1 (rest := [.ref (a 3)]) (Nat.le_of_ble_eq_true rfl) rfl d_Mach_doNew_9 (fun H locs hI => ?_)
  obtain ⟨p12, hp12, h⟩ := of_bind h
  refine rb_callI sxok C (c_Room_make hp12) cw_Mach_245 ⟨Nat.le_of_ble_eq_true rfl, Nat.le_of_ble_eq_true rfl⟩ ⟨rfl, rfl⟩ (q0 := 3) (ci := 3) rfl rfl hI ⟨Nat.zero_le _, Nat.zero_le _⟩ (As := [.int p9.1]) rfl hl.1 (rest := []) (Nat.le_of_ble_eq_true rfl) rfl d_Mach_doNew_12 (fun H locs hI => ?_)
  refine lv_istore_n (lv' := [(3, .int p12.1), (0, .ref (a 0)), (1, .int x1), (2, .int x2)]) hx hb d_Mach_doNew_15 rfl hl (by decide) rfl (fun ls hl => ?_)
  refine lv_aload_n hx hb d_Mach_doNew_16 rfl (lv_at hl 1 rfl) ?_
  refine gf_Mach_37 C hI d_Mach_doNew_17 ?_
  refine gf_Mach_121 C hI (v := p12.2.1 20) rfl d_Mach_doNew_20 ?_
  refine lv_if_ne (tgt := 42) hx hb d_Mach_doNew_23 (by decide) (fun hc => ?_) (fun hc => ?_)
  · replace h := of_neg hc h
    replace h := Option.some.inj h
    subst h
    exact rb_retV C hr hI d_Mach_doNew_42
  · replace h := of_pos hc h
    refine lv_aload_n hx hb d_Mach_doNew_26 rfl (lv_at hl 1 rfl) ?_
    refine gf_Mach_37 C hI d_Mach_doNew_27 ?_
    refine lv_aload_n hx hb d_Mach_doNew_30 rfl (lv_at hl 1 rfl) ?_
    refine gf_Mach_37 C hI d_Mach_doNew_31 ?_
    refine gf_Mach_94 C hI (v := p12.2.1 11) rfl d_Mach_doNew_34 ?_
    refine lv_iload_n hx hb d_Mach_doNew_37 rfl (lv_at hl 2 rfl) ?_
    refine lv_iload_n hx hb d_Mach_doNew_38 rfl (lv_at hl 0 rfl) ?_
    obtain ⟨p39, hp39, h⟩ := of_bind h
    refine rb_callV sxok C (c_Room_setRef hp39) cw_Mach_209 ⟨Nat.le_of_ble_eq_true rfl, Nat.le_of_ble_eq_true rfl⟩ ⟨rfl, rfl⟩ (q0 := 3) (ci := 3) rfl rfl hI ⟨Nat.zero_le _, Nat.zero_le _⟩ (As := [.int (p12.2.1 11), .int x1, .int p12.1]) rfl hl.1 (rest := []) (Nat.le_of_ble_eq_true rfl) rfl d_Mach_doNew_39 (fun H locs hI => ?_)
    replace h := Option.some.inj h
    subst h
    exact rb_retV C hr hI d_Mach_doNew_42
theorem d_Mach_doCopy_0 : decode b_Mach_doCopy 0 = .ok (.aload_n 0, 1) := by decide +kernel
theorem d_Mach_doCopy_1 : decode b_Mach_doCopy 1 = .ok (.getfield 37, 3) := by decide +kernel
theorem d_Mach_doCopy_4 : decode b_Mach_doCopy 4 = .ok (.aload_n 0, 1) := by decide +kernel
theorem d_Mach_doCopy_5 : decode b_Mach_doCopy 5 = .ok (.getfield 37, 3) := by decide +kernel
theorem d_Mach_doCopy_8 : decode b_Mach_doCopy 8 = .ok (.getfield 94, 3) := by decide +kernel
theorem d_Mach_doCopy_11 : decode b_Mach_doCopy 11 = .ok (.iload_n 2, 1) := by decide +kernel
theorem d_Mach_doCopy_12 : decode b_Mach_doCopy 12 = .ok (.invokevirtual 182, 3) := by decide +kernel
theorem d_Mach_doCopy_15 : decode b_Mach_doCopy 15 = .ok (.istore_n 3, 1) := by decide +kernel
theorem d_Mach_doCopy_16 : decode b_Mach_doCopy 16 = .ok (.aload_n 0, 1) := by decide +kernel
theorem d_Mach_doCopy_17 : decode b_Mach_doCopy 17 = .ok (.getfield 37, 3) := by decide +kernel
theorem d_Mach_doCopy_20 : decode b_Mach_doCopy 20 = .ok (.getfield 121, 3) := by decide +kernel
theorem d_Mach_doCopy_23 : decode b_Mach_doCopy 23 = .ok (.ifCond .ne 19, 3) := by decide +kernel
theorem d_Mach_doCopy_26 : decode b_Mach_doCopy 26 = .ok (.aload_n 0, 1) := by decide +kernel
theorem d_Mach_doCopy_27 : decode b_Mach_doCopy 27 = .ok (.getfield 37, 3) := by decide +kernel
theorem d_Mach_doCopy_30 : decode b_Mach_doCopy 30 = .ok (.aload_n 0, 1) := by decide +kernel
theorem d_Mach_doCopy_31 : decode b_Mach_doCopy 31 = .ok (.getfield 37, 3) := by decide +kernel
theorem d_Mach_doCopy_34 : decode b_Mach_doCopy 34 = .ok (.getfield 94, 3) := by decide +kernel
theorem d_Mach_doCopy_37 : decode b_Mach_doCopy 37 = .ok (.iload_n 1, 1) := by decide +kernel
theorem d_Mach_doCopy_38 : decode b_Mach_doCopy 38 = .ok (.iload_n 3, 1) := by decide +kernel
theorem d_Mach_doCopy_39 : decode b_Mach_doCopy 39 = .ok (.invokevirtual 209, 3) := by decide +kernel
theorem d_Mach_doCopy_42 : decode b_Mach_doCopy 42 = .ok (.return_, 1) := by decide +kernel
abbrev rm_Mach_doCopy : Room := { frames := 4, cells := 0, slots := 0, locals := 132 }
set_option maxHeartbeats 4000000 in
set_option maxRecDepth 100000 in
theorem c_Mach_doCopy {l : Launch} {dC : Nat → ClassId} {dI : Nat → Nat → Nat} {a : Nat → Nat} {cI : ClassId} {L : Nat} {tt : Nat → Nat} {σ : St} {x1 x2 : Int32} {q : St} (h : fMach_doCopy L σ x1 x2 = some q) : CV l (dC, dI) clA (tyX cI) (SXx tt) (wX a cI L σ) (wX a cI L q) y_Mach_doCopy b_Mach_doCopy 4 none rm_Mach_doCopy [.ref (a 0), .int x1, .int x2] := by
  refine CV_of (by decide) (Nat.le_of_ble_eq_true rfl) ?_
  intro pr e s m below meth c A ls C hr hl hI
  have hx := C.1
  have hb := C.2.1
  have hl : lv_has ls 4 [(0, .ref (a 0)), (1, .int x1), (2, .int x2)] := hl
  unfold fMach_doCopy at h
  refine lv_aload_n hx hb d_Mach_doCopy_0 rfl (lv_at hl 0 rfl) ?_
  refine gf_Mach_37 C hI d_Mach_doCopy_1 ?_
  refine lv_aload_n hx hb d_Mach_doCopy_4 rfl (lv_at hl 0 rfl) ?_
  refine gf_Mach_37 C hI d_Mach_doCopy_5 ?_
  refine gf_Mach_94 C hI (v := σ.1 11) rfl d_Mach_doCopy_8 ?_
  refine lv_iload_n hx hb d_Mach_doCopy_11 rfl (lv_at hl 2 rfl) ?_
  obtain ⟨p12, hp12, h⟩ := of_bind h
  refine rb_callI sxok C (c_Room_readRef hp12) cw_Mach_182 ⟨Nat.le_of_ble_eq_true rfl, Nat.le_of_ble_eq_true rfl⟩ ⟨rfl, rfl⟩ (q0 := 3) (ci := 3) rfl rfl hI ⟨Nat.zero_le _, Nat.zero_le _⟩ (As := [.int (σ.1 11), .int x2]) rfl hl.1 (rest := []) (Nat.le_of_ble_eq_true rfl) rfl d_Mach_doCopy_12 (fun H locs hI => ?_)
  refine lv_istore_n (lv' := [(3, .int p12.1), (0, .ref (a 0)), (1, .int x1), (2, .int x2)]) hx hb d_Mach_doCopy_15 rfl hl (by decide) rfl (fun ls hl => ?_)
  refine lv_aload_n hx hb d_Mach_doCopy_16 rfl (lv_at hl 1 rfl) ?_
  refine gf_Mach_37 C hI d_Mach_doCopy_17 ?_
  refine gf_Mach_121 C hI (v := p12.2.1 20) rfl d_Mach_doCopy_20 ?_
  refine lv_if_ne (tgt := 42) hx hb d_Mach_doCopy_23 (by decide) (fun hc => ?_) (fun hc => ?_)
  · replace h := of_neg hc h
    replace h := Option.some.inj h
    subst h
    exact rb_retV C hr hI d_Mach_doCopy_42
  · replace h := of_pos hc h
    refine lv_aload_n hx hb d_Mach_doCopy_26 rfl (lv_at hl 1 rfl) ?_
    refine gf_Mach_37 C hI d_Mach_doCopy_27 ?_
    refine lv_aload_n hx hb d_Mach_doCopy_30 rfl (lv_at hl 1 rfl) ?_
    refine gf_Mach_37 C hI d_Mach_doCopy_31 ?_
    refine gf_Mach_94 C hI (v := p12.2.1 11) rfl d_Mach_doCopy_34 ?_
    refine lv_iload_n hx hb d_Mach_doCopy_37 rfl (lv_at hl 2 rfl) ?_
    refine lv_iload_n hx hb d_Mach_doCopy_38 rfl (lv_at hl 0 rfl) ?_
    obtain ⟨p39, hp39, h⟩ := of_bind h
    refine rb_callV sxok C (c_Room_setRef hp39) cw_Mach_209 ⟨Nat.le_of_ble_eq_true rfl, Nat.le_of_ble_eq_true rfl⟩ ⟨rfl, rfl⟩ (q0 := 3) (ci := 3) rfl rfl hI ⟨Nat.zero_le _, Nat.zero_le _⟩ (As := [.int (p12.2.1 11), .int x1, .int p12.1]) rfl hl.1 (rest := []) (Nat.le_of_ble_eq_true rfl) rfl d_Mach_doCopy_39 (fun H locs hI => ?_)
    replace h := Option.some.inj h
    subst h
    exact rb_retV C hr hI d_Mach_doCopy_42
theorem d_Mach_raise_0 : decode b_Mach_raise 0 = .ok (.aload_n 0, 1) := by decide +kernel
theorem d_Mach_raise_1 : decode b_Mach_raise 1 = .ok (.iconst 1, 1) := by decide +kernel
theorem d_Mach_raise_2 : decode b_Mach_raise 2 = .ok (.putfield 103, 3) := by decide +kernel
theorem d_Mach_raise_5 : decode b_Mach_raise 5 = .ok (.aload_n 0, 1) := by decide +kernel
theorem d_Mach_raise_6 : decode b_Mach_raise 6 = .ok (.iload_n 1, 1) := by decide +kernel
theorem d_Mach_raise_7 : decode b_Mach_raise 7 = .ok (.putfield 176, 3) := by decide +kernel
theorem d_Mach_raise_10 : decode b_Mach_raise 10 = .ok (.return_, 1) := by decide +kernel
abbrev rm_Mach_raise : Room := { frames := 0, cells := 0, slots := 0, locals := 0 }
set_option maxHeartbeats 4000000 in
set_option maxRecDepth 100000 in
theorem c_Mach_raise {l : Launch} {dC : Nat → ClassId} {dI : Nat → Nat → Nat} {a : Nat → Nat} {cI : ClassId} {L : Nat} {tt : Nat → Nat} {σ : St} {x1 : Int32} {q : St} (h : fMach_raise L σ x1 = some q) : CV l (dC, dI) clA (tyX cI) (SXx tt) (wX a cI L σ) (wX a cI L q) y_Mach_raise b_Mach_raise 2 none rm_Mach_raise [.ref (a 0), .int x1] := by
  refine CV_of (by decide) (Nat.le_of_ble_eq_true rfl) ?_
  intro pr e s m below meth c A ls C hr hl hI
  have hx := C.1
  have hb := C.2.1
  have hl : lv_has ls 2 [(0, .ref (a 0)), (1, .int x1)] := hl
  unfold fMach_raise at h
  refine lv_aload_n hx hb d_Mach_raise_0 rfl (lv_at hl 0 rfl) ?_
  refine lv_iconst (v := 1) hx hb d_Mach_raise_1 (by decide) ?_
  refine pf_Mach_103 C hI (σ' := (upd σ.1 3 1, σ.2)) rfl (by decide) d_Mach_raise_2 (fun H locs hI => ?_)
  refine lv_aload_n hx hb d_Mach_raise_5 rfl (lv_at hl 0 rfl) ?_
  refine lv_iload_n hx hb d_Mach_raise_6 rfl (lv_at hl 1 rfl) ?_
  refine pf_Mach_176 C hI (σ' := (upd (upd σ.1 3 1) 4 x1, σ.2)) rfl d_Mach_raise_7 (fun H locs hI => ?_)
  replace h := Option.some.inj h
  subst h
  exact rb_retV C hr hI d_Mach_raise_10
theorem d_Mach_isThere_0 : decode b_Mach_isThere 0 = .ok (.aload_n 0, 1) := by decide +kernel
theorem d_Mach_isThere_1 : decode b_Mach_isThere 1 = .ok (.getfield 37, 3) := by decide +kernel
theorem d_Mach_isThere_4 : decode b_Mach_isThere 4 = .ok (.getfield 121, 3) := by decide +kernel
theorem d_Mach_isThere_7 : decode b_Mach_isThere 7 = .ok (.ifCond .eq 5, 3) := by decide +kernel
theorem d_Mach_isThere_10 : decode b_Mach_isThere 10 = .ok (.iconst 0, 1) := by decide +kernel
theorem d_Mach_isThere_11 : decode b_Mach_isThere 11 = .ok (.ireturn, 1) := by decide +kernel
theorem d_Mach_isThere_12 : decode b_Mach_isThere 12 = .ok (.iload_n 1, 1) := by decide +kernel
theorem d_Mach_isThere_13 : decode b_Mach_isThere 13 = .ok (.iconst (-1), 1) := by decide +kernel
theorem d_Mach_isThere_14 : decode b_Mach_isThere 14 = .ok (.if_icmp .ne 10, 3) := by decide +kernel
theorem d_Mach_isThere_17 : decode b_Mach_isThere 17 = .ok (.aload_n 0, 1) := by decide +kernel
theorem d_Mach_isThere_18 : decode b_Mach_isThere 18 = .ok (.iconst 1, 1) := by decide +kernel
theorem d_Mach_isThere_19 : decode b_Mach_isThere 19 = .ok (.invokevirtual 236, 3) := by decide +kernel
theorem d_Mach_isThere_22 : decode b_Mach_isThere 22 = .ok (.iconst 0, 1) := by decide +kernel
theorem d_Mach_isThere_23 : decode b_Mach_isThere 23 = .ok (.ireturn, 1) := by decide +kernel
theorem d_Mach_isThere_24 : decode b_Mach_isThere 24 = .ok (.iconst 1, 1) := by decide +kernel
theorem d_Mach_isThere_25 : decode b_Mach_isThere 25 = .ok (.ireturn, 1) := by decide +kernel
abbrev rm_Mach_isThere : Room := { frames := 1, cells := 0, slots := 0, locals := 21 }
set_option maxHeartbeats 4000000 in
set_option maxRecDepth 100000 in
theorem c_Mach_isThere {l : Launch} {dC : Nat → ClassId} {dI : Nat → Nat → Nat} {a : Nat → Nat} {cI : ClassId} {L : Nat} {tt : Nat → Nat} {σ : St} {x1 : Int32} {q : Int32 × St} (h : fMach_isThere L σ x1 = some q) : CI l (dC, dI) clA (tyX cI) (SXx tt) (wX a cI L σ) (wX a cI L q.2) y_Mach_isThere b_Mach_isThere 2 (some .boolean) rm_Mach_isThere [.ref (a 0), .int x1] q.1 := by
  refine CI_of (by decide) (Nat.le_of_ble_eq_true rfl) ?_
  intro pr e s m below meth c A ls C hr hl hI
  have hx := C.1
  have hb := C.2.1
  have hl : lv_has ls 2 [(0, .ref (a 0)), (1, .int x1)] := hl
  unfold fMach_isThere at h
  refine lv_aload_n hx hb d_Mach_isThere_0 rfl (lv_at hl 0 rfl) ?_
  refine gf_Mach_37 C hI d_Mach_isThere_1 ?_
  refine gf_Mach_121 C hI (v := σ.1 20) rfl d_Mach_isThere_4 ?_
  refine lv_if_eq (tgt := 12) hx hb d_Mach_isThere_7 (by decide) (fun hc => ?_) (fun hc => ?_)
  · replace h := of_pos hc h
    refine lv_iload_n hx hb d_Mach_isThere_12 rfl (lv_at hl 1 rfl) ?_
    refine lv_iconst (v := (-1)) hx hb d_Mach_isThere_13 (by decide) ?_
    refine lv_icmp_ne (tgt := 24) hx hb d_Mach_isThere_14 (by decide) (fun hc => ?_) (fun hc => ?_)
    · replace h := of_neg hc h
      refine lv_iconst (v := 1) hx hb d_Mach_isThere_24 (by decide) ?_
      replace h := Option.some.inj h
      subst h
      exact rb_retZ C hr (Or.inr rfl) hI d_Mach_isThere_25
    · replace h := of_pos hc h
      refine lv_aload_n hx hb d_Mach_isThere_17 rfl (lv_at hl 0 rfl) ?_
      refine lv_iconst (v := 1) hx hb d_Mach_isThere_18 (by decide) ?_
      obtain ⟨p19, hp19, h⟩ := of_bind h
      refine rb_callV sxok C (c_Mach_raise hp19) cw_Mach_236 ⟨Nat.le_of_ble_eq_true rfl, Nat.le_of_ble_eq_true rfl⟩ ⟨rfl, rfl⟩ (q0 := 0) (ci := 0) rfl rfl hI ⟨Nat.zero_le _, Nat.zero_le _⟩ (As := [.int 1]) rfl hl.1 (rest := []) (Nat.le_of_ble_eq_true rfl) rfl d_Mach_isThere_19 (fun H locs hI => ?_)
      refine lv_iconst (v := 0) hx hb d_Mach_isThere_22 (by decide) ?_
      replace h := Option.some.inj h
      subst h
      exact rb_retZ C hr (Or.inl rfl) hI d_Mach_isThere_23
  · replace h := of_neg hc h
    refine lv_iconst (v := 0) hx hb d_Mach_isThere_10 (by decide) ?_
    replace h := Option.some.inj h
    subst h
    exact rb_retZ C hr (Or.inl rfl) hI d_Mach_isThere_11
theorem d_Mach_hasPart_0 : decode b_Mach_hasPart 0 = .ok (.iload_n 1, 1) := by decide +kernel
theorem d_Mach_hasPart_1 : decode b_Mach_hasPart 1 = .ok (.iload_n 2, 1) := by decide +kernel
theorem d_Mach_hasPart_2 : decode b_Mach_hasPart 2 = .ok (.if_icmp .lt 10, 3) := by decide +kernel
theorem d_Mach_hasPart_5 : decode b_Mach_hasPart 5 = .ok (.aload_n 0, 1) := by decide +kernel
theorem d_Mach_hasPart_6 : decode b_Mach_hasPart 6 = .ok (.iconst 2, 1) := by decide +kernel
theorem d_Mach_hasPart_7 : decode b_Mach_hasPart 7 = .ok (.invokevirtual 236, 3) := by decide +kernel
theorem d_Mach_hasPart_10 : decode b_Mach_hasPart 10 = .ok (.iconst 0, 1) := by decide +kernel
theorem d_Mach_hasPart_11 : decode b_Mach_hasPart 11 = .ok (.ireturn, 1) := by decide +kernel
theorem d_Mach_hasPart_12 : decode b_Mach_hasPart 12 = .ok (.iconst 1, 1) := by decide +kernel
theorem d_Mach_hasPart_13 : decode b_Mach_hasPart 13 = .ok (.ireturn, 1) := by decide +kernel
abbrev rm_Mach_hasPart : Room := { frames := 1, cells := 0, slots := 0, locals := 21 }
set_option maxHeartbeats 4000000 in
set_option maxRecDepth 100000 in
theorem c_Mach_hasPart {l : Launch} {dC : Nat → ClassId} {dI : Nat → Nat → Nat} {a : Nat → Nat} {cI : ClassId} {L : Nat} {tt : Nat → Nat} {σ : St} {x1 x2 : Int32} {q : Int32 × St} (h : fMach_hasPart L σ x1 x2 = some q) : CI l (dC, dI) clA (tyX cI) (SXx tt) (wX a cI L σ) (wX a cI L q.2) y_Mach_hasPart b_Mach_hasPart 3 (some .boolean) rm_Mach_hasPart [.ref (a 0), .int x1, .int x2] q.1 := by
  refine CI_of (by decide) (Nat.le_of_ble_eq_true rfl) ?_
  intro pr e s m below meth c A ls C hr hl hI
  have hx := C.1
  have hb := C.2.1
  have hl : lv_has ls 3 [(0, .ref (a 0)), (1, .int x1), (2, .int x2)] := hl
  unfold fMach_hasPart at h
  refine lv_iload_n hx hb d_Mach_hasPart_0 rfl (lv_at hl 1 rfl) ?_
  refine lv_iload_n hx hb d_Mach_hasPart_1 rfl (lv_at hl 2 rfl) ?_
  refine lv_icmp_lt (tgt := 12) hx hb d_Mach_hasPart_2 (by decide) (fun hc => ?_) (fun hc => ?_)
  · replace h := of_pos hc h
    refine lv_iconst (v := 1) hx hb d_Mach_hasPart_12 (by decide) ?_
    replace h := Option.some.inj h
    subst h
    exact rb_retZ C hr (Or.inr rfl) hI d_Mach_hasPart_13
  · replace h := of_neg hc h
    refine lv_aload_n hx hb d_Mach_hasPart_5 rfl (lv_at hl 0 rfl) ?_
    refine lv_iconst (v := 2) hx hb d_Mach_hasPart_6 (by decide) ?_
    obtain ⟨p7, hp7, h⟩ := of_bind h
    refine rb_callV sxok C (c_Mach_raise hp7) cw_Mach_236 ⟨Nat.le_of_ble_eq_true rfl, Nat.le_of_ble_eq_true rfl⟩ ⟨rfl, rfl⟩ (q0 := 0) (ci := 0) rfl rfl hI ⟨Nat.zero_le _, Nat.zero_le _⟩ (As := [.int 2]) rfl hl.1 (rest := []) (Nat.le_of_ble_eq_true rfl) rfl d_Mach_hasPart_7 (fun H locs hI => ?_)
    refine lv_iconst (v := 0) hx hb d_Mach_hasPart_10 (by decide) ?_
    replace h := Option.some.inj h
    subst h
    exact rb_retZ C hr (Or.inl rfl) hI d_Mach_hasPart_11
theorem d_Mach_hasRef_0 : decode b_Mach_hasRef 0 = .ok (.aload_n 0, 1) := by decide +kernel
theorem d_Mach_hasRef_1 : decode b_Mach_hasRef 1 = .ok (.iload_n 1, 1) := by decide +kernel
theorem d_Mach_hasRef_2 : decode b_Mach_hasRef 2 = .ok (.invokevirtual 255, 3) := by decide +kernel
theorem d_Mach_hasRef_5 : decode b_Mach_hasRef 5 = .ok (.ifCond .eq 23, 3) := by decide +kernel
theorem d_Mach_hasRef_8 : decode b_Mach_hasRef 8 = .ok (.aload_n 0, 1) := by decide +kernel
theorem d_Mach_hasRef_9 : decode b_Mach_hasRef 9 = .ok (.iload_n 2, 1) := by decide +kernel
theorem d_Mach_hasRef_10 : decode b_Mach_hasRef 10 = .ok (.aload_n 0, 1) := by decide +kernel
theorem d_Mach_hasRef_11 : decode b_Mach_hasRef 11 = .ok (.getfield 37, 3) := by decide +kernel
theorem d_Mach_hasRef_14 : decode b_Mach_hasRef 14 = .ok (.iload_n 1, 1) := by decide +kernel
theorem d_Mach_hasRef_15 : decode b_Mach_hasRef 15 = .ok (.invokevirtual 149, 3) := by decide +kernel
theorem d_Mach_hasRef_18 : decode b_Mach_hasRef 18 = .ok (.invokevirtual 267, 3) := by decide +kernel
theorem d_Mach_hasRef_21 : decode b_Mach_hasRef 21 = .ok (.ifCond .eq 7, 3) := by decide +kernel
theorem d_Mach_hasRef_24 : decode b_Mach_hasRef 24 = .ok (.iconst 1, 1) := by decide +kernel
theorem d_Mach_hasRef_25 : decode b_Mach_hasRef 25 = .ok (.goto 4, 3) := by decide +kernel
theorem d_Mach_hasRef_28 : decode b_Mach_hasRef 28 = .ok (.iconst 0, 1) := by decide +kernel
theorem d_Mach_hasRef_29 : decode b_Mach_hasRef 29 = .ok (.ireturn, 1) := by decide +kernel
abbrev rm_Mach_hasRef : Room := { frames := 2, cells := 0, slots := 0, locals := 43 }
set_option maxHeartbeats 4000000 in
set_option maxRecDepth 100000 in
theorem c_Mach_hasRef {l : Launch} {dC : Nat → ClassId} {dI : Nat → Nat → Nat} {a : Nat → Nat} {cI : ClassId} {L : Nat} {tt : Nat → Nat} {σ : St} {x1 x2 : Int32} {q : Int32 × St} (h : fMach_hasRef L σ x1 x2 = some q) : CI l (dC, dI) clA (tyX cI) (SXx tt) (wX a cI L σ) (wX a cI L q.2) y_Mach_hasRef b_Mach_hasRef 3 (some .boolean) rm_Mach_hasRef [.ref (a 0), .int x1, .int x2] q.1 := by
  refine CI_of (by decide) (Nat.le_of_ble_eq_true rfl) ?_
  intro pr e s m below meth c A ls C hr hl hI
  have hx := C.1
  have hb := C.2.1
  have hl : lv_has ls 3 [(0, .ref (a 0)), (1, .int x1), (2, .int x2)] := hl
  unfold fMach_hasRef at h
  refine lv_aload_n hx hb d_Mach_hasRef_0 rfl (lv_at hl 0 rfl) ?_
  refine lv_iload_n hx hb d_Mach_hasRef_1 rfl (lv_at hl 1 rfl) ?_
  obtain ⟨p2, hp2, h⟩ := of_bind h
  refine rb_callI sxok C (c_Mach_isThere hp2) cw_Mach_255 ⟨Nat.le_of_ble_eq_true rfl, Nat.le_of_ble_eq_true rfl⟩ ⟨rfl, rfl⟩ (q0 := 0) (ci := 0) rfl rfl hI ⟨Nat.zero_le _, Nat.zero_le _⟩ (As := [.int x1]) rfl hl.1 (rest := []) (Nat.le_of_ble_eq_true rfl) rfl d_Mach_hasRef_2 (fun H locs hI => ?_)
  refine lv_if_eq (tgt := 28) hx hb d_Mach_hasRef_5 (by decide) (fun hc => ?_) (fun hc => ?_)
  · replace h := of_pos hc h
    refine lv_iconst (v := 0) hx hb d_Mach_hasRef_28 (by decide) ?_
    replace h := Option.some.inj h
    subst h
    exact rb_retZ C hr (Or.inl rfl) hI d_Mach_hasRef_29
  · replace h := of_neg hc h
    refine lv_aload_n hx hb d_Mach_hasRef_8 rfl (lv_at hl 0 rfl) ?_
    refine lv_iload_n hx hb d_Mach_hasRef_9 rfl (lv_at hl 2 rfl) ?_
    refine lv_aload_n hx hb d_Mach_hasRef_10 rfl (lv_at hl 0 rfl) ?_
    refine gf_Mach_37 C hI d_Mach_hasRef_11 ?_
    refine lv_iload_n hx hb d_Mach_hasRef_14 rfl (lv_at hl 1 rfl) ?_
    obtain ⟨p15, hp15, h⟩ := of_bind h
    refine rb_callI sxok C (c_Room_refsOf hp15) cw_Mach_149 ⟨Nat.le_of_ble_eq_true rfl, Nat.le_of_ble_eq_true rfl⟩ ⟨rfl, rfl⟩ (q0 := 3) (ci := 3) rfl rfl hI ⟨Nat.zero_le _, Nat.zero_le _⟩ (As := [.int x1]) rfl hl.1 (rest := [.int x2, .ref (a 0)]) (Nat.le_of_ble_eq_true rfl) rfl d_Mach_hasRef_15 (fun H locs hI => ?_)
    obtain ⟨p18, hp18, h⟩ := of_bind h
    refine rb_callI sxok C (c_Mach_hasPart hp18) cw_Mach_267 ⟨Nat.le_of_ble_eq_true rfl, Nat.le_of_ble_eq_true rfl⟩ ⟨rfl, rfl⟩ (q0 := 0) (ci := 0) rfl rfl hI ⟨Nat.zero_le _, Nat.zero_le _⟩ (As := [.int x2, .int p15.1]) rfl hl.1 (rest := []) (Nat.le_of_ble_eq_true rfl) rfl d_Mach_hasRef_18 (fun H locs hI => ?_)
    refine lv_if_eq (tgt := 28) hx hb d_Mach_hasRef_21 (by decide) (fun hc => ?_) (fun hc => ?_)
    · replace h := of_pos hc h
      refine lv_iconst (v := 0) hx hb d_Mach_hasRef_28 (by decide) ?_
      replace h := Option.some.inj h
      subst h
      exact rb_retZ C hr (Or.inl rfl) hI d_Mach_hasRef_29
    · replace h := of_neg hc h
      refine lv_iconst (v := 1) hx hb d_Mach_hasRef_24 (by decide) ?_
      refine lv_goto (tgt := 29) hx hb d_Mach_hasRef_25 (by decide) ?_
      replace h := Option.some.inj h
      subst h
      exact rb_retZ C hr (Or.inr rfl) hI d_Mach_hasRef_29
theorem d_Mach_doGet_0 : decode b_Mach_doGet 0 = .ok (.aload_n 0, 1) := by decide +kernel
theorem d_Mach_doGet_1 : decode b_Mach_doGet 1 = .ok (.getfield 37, 3) := by decide +kernel
theorem d_Mach_doGet_4 : decode b_Mach_doGet 4 = .ok (.aload_n 0, 1) := by decide +kernel
theorem d_Mach_doGet_5 : decode b_Mach_doGet 5 = .ok (.getfield 37, 3) := by decide +kernel
theorem d_Mach_doGet_8 : decode b_Mach_doGet 8 = .ok (.getfield 94, 3) := by decide +kernel
theorem d_Mach_doGet_11 : decode b_Mach_doGet 11 = .ok (.iload_n 2, 1) := by decide +kernel
theorem d_Mach_doGet_12 : decode b_Mach_doGet 12 = .ok (.invokevirtual 182, 3) := by decide +kernel
theorem d_Mach_doGet_15 : decode b_Mach_doGet 15 = .ok (.istore 4, 2) := by decide +kernel
theorem d_Mach_doGet_17 : decode b_Mach_doGet 17 = .ok (.aload_n 0, 1) := by decide +kernel
theorem d_Mach_doGet_18 : decode b_Mach_doGet 18 = .ok (.iload 4, 2) := by decide +kernel
theorem d_Mach_doGet_20 : decode b_Mach_doGet 20 = .ok (.iload_n 3, 1) := by decide +kernel
theorem d_Mach_doGet_21 : decode b_Mach_doGet 21 = .ok (.invokevirtual 248, 3) := by decide +kernel
theorem d_Mach_doGet_24 : decode b_Mach_doGet 24 = .ok (.ifCond .ne 4, 3) := by decide +kernel
theorem d_Mach_doGet_27 : decode b_Mach_doGet 27 = .ok (.return_, 1) := by decide +kernel
theorem d_Mach_doGet_28 : decode b_Mach_doGet 28 = .ok (.aload_n 0, 1) := by decide +kernel
theorem d_Mach_doGet_29 : decode b_Mach_doGet 29 = .ok (.getfield 37, 3) := by decide +kernel
theorem d_Mach_doGet_32 : decode b_Mach_doGet 32 = .ok (.iload 4, 2) := by decide +kernel
theorem d_Mach_doGet_34 : decode b_Mach_doGet 34 = .ok (.iload_n 3, 1) := by decide +kernel
theorem d_Mach_doGet_35 : decode b_Mach_doGet 35 = .ok (.invokevirtual 182, 3) := by decide +kernel
theorem d_Mach_doGet_38 : decode b_Mach_doGet 38 = .ok (.istore 5, 2) := by decide +kernel
theorem d_Mach_doGet_40 : decode b_Mach_doGet 40 = .ok (.aload_n 0, 1) := by decide +kernel
theorem d_Mach_doGet_41 : decode b_Mach_doGet 41 = .ok (.getfield 37, 3) := by decide +kernel
theorem d_Mach_doGet_44 : decode b_Mach_doGet 44 = .ok (.getfield 121, 3) := by decide +kernel
theorem d_Mach_doGet_47 : decode b_Mach_doGet 47 = .ok (.ifCond .ne 20, 3) := by decide +kernel
theorem d_Mach_doGet_50 : decode b_Mach_doGet 50 = .ok (.aload_n 0, 1) := by decide +kernel
theorem d_Mach_doGet_51 : decode b_Mach_doGet 51 = .ok (.getfield 37, 3) := by decide +kernel
theorem d_Mach_doGet_54 : decode b_Mach_doGet 54 = .ok (.aload_n 0, 1) := by decide +kernel
theorem d_Mach_doGet_55 : decode b_Mach_doGet 55 = .ok (.getfield 37, 3) := by decide +kernel
theorem d_Mach_doGet_58 : decode b_Mach_doGet 58 = .ok (.getfield 94, 3) := by decide +kernel
theorem d_Mach_doGet_61 : decode b_Mach_doGet 61 = .ok (.iload_n 1, 1) := by decide +kernel
theorem d_Mach_doGet_62 : decode b_Mach_doGet 62 = .ok (.iload 5, 2) := by decide +kernel
theorem d_Mach_doGet_64 : decode b_Mach_doGet 64 = .ok (.invokevirtual 209, 3) := by decide +kernel
theorem d_Mach_doGet_67 : decode b_Mach_doGet 67 = .ok (.return_, 1) := by decide +kernel
abbrev rm_Mach_doGet : Room := { frames := 4, cells := 0, slots := 0, locals := 132 }
set_option maxHeartbeats 4000000 in
set_option maxRecDepth 100000 in
theorem c_Mach_doGet {l : Launch} {dC : Nat → ClassId} {dI : Nat → Nat → Nat} {a : Nat → Nat} {cI : ClassId} {L : Nat} {tt : Nat → Nat} {σ : St} {x1 x2 x3 : Int32} {q : St} (h : fMach_doGet L σ x1 x2 x3 = some q) : CV l (dC, dI) clA (tyX cI) (SXx tt) (wX a cI L σ) (wX a cI L q) y_Mach_doGet b_Mach_doGet 6 none rm_Mach_doGet [.ref (a 0), .int x1, .int x2, .int x3] := by
  refine CV_of (by decide) (Nat.le_of_ble_eq_true rfl) ?_
  intro pr e s m below meth c A ls C hr hl hI
  have hx := C.1
  have hb := C.2.1
  have hl : lv_has ls 6 [(0, .ref (a 0)), (1, .int x1), (2, .int x2), (3, .int x3)] := hl
  unfold fMach_doGet at h
  refine lv_aload_n hx hb d_Mach_doGet_0 rfl (lv_at hl 0 rfl) ?_
  refine gf_Mach_37 C hI d_Mach_doGet_1 ?_
  refine lv_aload_n hx hb d_Mach_doGet_4 rfl (lv_at hl 0 rfl) ?_
  refine gf_Mach_37 C hI d_Mach_doGet_5 ?_
  refine gf_Mach_94 C hI (v := σ.1 11) rfl d_Mach_doGet_8 ?_
  refine lv_iload_n hx hb d_Mach_doGet_11 rfl (lv_at hl 2 rfl) ?_
  obtain ⟨p12, hp12, h⟩ := of_bind h
  refine rb_callI sxok C (c_Room_readRef hp12) cw_Mach_182 ⟨Nat.le_of_ble_eq_true rfl, Nat.le_of_ble_eq_true rfl⟩ ⟨rfl, rfl⟩ (q0 := 3) (ci := 3) rfl rfl hI ⟨Nat.zero_le _, Nat.zero_le _⟩ (As := [.int (σ.1 11), .int x2]) rfl hl.1 (rest := []) (Nat.le_of_ble_eq_true rfl) rfl d_Mach_doGet_12 (fun H locs hI => ?_)
  refine lv_istore (lv' := [(4, .int p12.1), (0, .ref (a 0)), (1, .int x1), (2, .int x2), (3, .int x3)]) hx hb d_Mach_doGet_15 hl (by decide) rfl (fun ls hl => ?_)
  refine lv_aload_n hx hb d_Mach_doGet_17 rfl (lv_at hl 1 rfl) ?_
  refine lv_iload hx hb d_Mach_doGet_18 (lv_at hl 0 rfl) ?_
  refine lv_iload_n hx hb d_Mach_doGet_20 rfl (lv_at hl 4 rfl) ?_
  obtain ⟨p21, hp21, h⟩ := of_bind h
  refine rb_callI sxok C (c_Mach_hasRef hp21) cw_Mach_248 ⟨Nat.le_of_ble_eq_true rfl, Nat.le_of_ble_eq_true rfl⟩ ⟨rfl, rfl⟩ (q0 := 0) (ci := 0) rfl rfl hI ⟨Nat.zero_le _, Nat.zero_le _⟩ (As := [.int p12.1, .int x3]) rfl hl.1 (rest := []) (Nat.le_of_ble_eq_true rfl) rfl d_Mach_doGet_21 (fun H locs hI => ?_)
  refine lv_if_ne (tgt := 28) hx hb d_Mach_doGet_24 (by decide) (fun hc => ?_) (fun hc => ?_)
  · replace h := of_neg hc h
    refine lv_aload_n hx hb d_Mach_doGet_28 rfl (lv_at hl 1 rfl) ?_
    refine gf_Mach_37 C hI d_Mach_doGet_29 ?_
    refine lv_iload hx hb d_Mach_doGet_32 (lv_at hl 0 rfl) ?_
    refine lv_iload_n hx hb d_Mach_doGet_34 rfl (lv_at hl 4 rfl) ?_
    obtain ⟨p35, hp35, h⟩ := of_bind h
    refine rb_callI sxok C (c_Room_readRef hp35) cw_Mach_182 ⟨Nat.le_of_ble_eq_true rfl, Nat.le_of_ble_eq_true rfl⟩ ⟨rfl, rfl⟩ (q0 := 3) (ci := 3) rfl rfl hI ⟨Nat.zero_le _, Nat.zero_le _⟩ (As := [.int p12.1, .int x3]) rfl hl.1 (rest := []) (Nat.le_of_ble_eq_true rfl) rfl d_Mach_doGet_35 (fun H locs hI => ?_)
    refine lv_istore (lv' := [(5, .int p35.1), (4, .int p12.1), (0, .ref (a 0)), (1, .int x1), (2, .int x2), (3, .int x3)]) hx hb d_Mach_doGet_38 hl (by decide) rfl (fun ls hl => ?_)
    refine lv_aload_n hx hb d_Mach_doGet_40 rfl (lv_at hl 2 rfl) ?_
    refine gf_Mach_37 C hI d_Mach_doGet_41 ?_
    refine gf_Mach_121 C hI (v := p35.2.1 20) rfl d_Mach_doGet_44 ?_
    refine lv_if_ne (tgt := 67) hx hb d_Mach_doGet_47 (by decide) (fun hc => ?_) (fun hc => ?_)
    · replace h := of_neg hc h
      replace h := Option.some.inj h
      subst h
      exact rb_retV C hr hI d_Mach_doGet_67
    · replace h := of_pos hc h
      refine lv_aload_n hx hb d_Mach_doGet_50 rfl (lv_at hl 2 rfl) ?_
      refine gf_Mach_37 C hI d_Mach_doGet_51 ?_
      refine lv_aload_n hx hb d_Mach_doGet_54 rfl (lv_at hl 2 rfl) ?_
      refine gf_Mach_37 C hI d_Mach_doGet_55 ?_
      refine gf_Mach_94 C hI (v := p35.2.1 11) rfl d_Mach_doGet_58 ?_
      refine lv_iload_n hx hb d_Mach_doGet_61 rfl (lv_at hl 3 rfl) ?_
      refine lv_iload hx hb d_Mach_doGet_62 (lv_at hl 0 rfl) ?_
      obtain ⟨p64, hp64, h⟩ := of_bind h
      refine rb_callV sxok C (c_Room_setRef hp64) cw_Mach_209 ⟨Nat.le_of_ble_eq_true rfl, Nat.le_of_ble_eq_true rfl⟩ ⟨rfl, rfl⟩ (q0 := 3) (ci := 3) rfl rfl hI ⟨Nat.zero_le _, Nat.zero_le _⟩ (As := [.int (p35.2.1 11), .int x1, .int p35.1]) rfl hl.1 (rest := []) (Nat.le_of_ble_eq_true rfl) rfl d_Mach_doGet_64 (fun H locs hI => ?_)
      replace h := Option.some.inj h
      subst h
      exact rb_retV C hr hI d_Mach_doGet_67
  · replace h := of_pos hc h
    replace h := Option.some.inj h
    subst h
    exact rb_retV C hr hI d_Mach_doGet_27
theorem d_Mach_doPut_0 : decode b_Mach_doPut 0 = .ok (.aload_n 0, 1) := by decide +kernel
theorem d_Mach_doPut_1 : decode b_Mach_doPut 1 = .ok (.getfield 37, 3) := by decide +kernel
theorem d_Mach_doPut_4 : decode b_Mach_doPut 4 = .ok (.aload_n 0, 1) := by decide +kernel
theorem d_Mach_doPut_5 : decode b_Mach_doPut 5 = .ok (.getfield 37, 3) := by decide +kernel
theorem d_Mach_doPut_8 : decode b_Mach_doPut 8 = .ok (.getfield 94, 3) := by decide +kernel
theorem d_Mach_doPut_11 : decode b_Mach_doPut 11 = .ok (.iload_n 1, 1) := by decide +kernel
theorem d_Mach_doPut_12 : decode b_Mach_doPut 12 = .ok (.invokevirtual 182, 3) := by decide +kernel
theorem d_Mach_doPut_15 : decode b_Mach_doPut 15 = .ok (.istore 4, 2) := by decide +kernel
theorem d_Mach_doPut_17 : decode b_Mach_doPut 17 = .ok (.aload_n 0, 1) := by decide +kernel
theorem d_Mach_doPut_18 : decode b_Mach_doPut 18 = .ok (.iload 4, 2) := by decide +kernel
theorem d_Mach_doPut_20 : decode b_Mach_doPut 20 = .ok (.iload_n 3, 1) := by decide +kernel
theorem d_Mach_doPut_21 : decode b_Mach_doPut 21 = .ok (.invokevirtual 248, 3) := by decide +kernel
theorem d_Mach_doPut_24 : decode b_Mach_doPut 24 = .ok (.ifCond .ne 4, 3) := by decide +kernel
theorem d_Mach_doPut_27 : decode b_Mach_doPut 27 = .ok (.return_, 1) := by decide +kernel
theorem d_Mach_doPut_28 : decode b_Mach_doPut 28 = .ok (.aload_n 0, 1) := by decide +kernel
theorem d_Mach_doPut_29 : decode b_Mach_doPut 29 = .ok (.getfield 37, 3) := by decide +kernel
theorem d_Mach_doPut_32 : decode b_Mach_doPut 32 = .ok (.aload_n 0, 1) := by decide +kernel
theorem d_Mach_doPut_33 : decode b_Mach_doPut 33 = .ok (.getfield 37, 3) := by decide +kernel
theorem d_Mach_doPut_36 : decode b_Mach_doPut 36 = .ok (.getfield 94, 3) := by decide +kernel
theorem d_Mach_doPut_39 : decode b_Mach_doPut 39 = .ok (.iload_n 2, 1) := by decide +kernel
theorem d_Mach_doPut_40 : decode b_Mach_doPut 40 = .ok (.invokevirtual 182, 3) := by decide +kernel
theorem d_Mach_doPut_43 : decode b_Mach_doPut 43 = .ok (.istore 5, 2) := by decide +kernel
theorem d_Mach_doPut_45 : decode b_Mach_doPut 45 = .ok (.aload_n 0, 1) := by decide +kernel
theorem d_Mach_doPut_46 : decode b_Mach_doPut 46 = .ok (.getfield 37, 3) := by decide +kernel
theorem d_Mach_doPut_49 : decode b_Mach_doPut 49 = .ok (.getfield 121, 3) := by decide +kernel
theorem d_Mach_doPut_52 : decode b_Mach_doPut 52 = .ok (.ifCond .ne 15, 3) := by decide +kernel
theorem d_Mach_doPut_55 : decode b_Mach_doPut 55 = .ok (.aload_n 0, 1) := by decide +kernel
theorem d_Mach_doPut_56 : decode b_Mach_doPut 56 = .ok (.getfield 37, 3) := by decide +kernel
theorem d_Mach_doPut_59 : decode b_Mach_doPut 59 = .ok (.iload 4, 2) := by decide +kernel
theorem d_Mach_doPut_61 : decode b_Mach_doPut 61 = .ok (.iload_n 3, 1) := by decide +kernel
theorem d_Mach_doPut_62 : decode b_Mach_doPut 62 = .ok (.iload 5, 2) := by decide +kernel
theorem d_Mach_doPut_64 : decode b_Mach_doPut 64 = .ok (.invokevirtual 209, 3) := by decide +kernel
theorem d_Mach_doPut_67 : decode b_Mach_doPut 67 = .ok (.return_, 1) := by decide +kernel
abbrev rm_Mach_doPut : Room := { frames := 4, cells := 0, slots := 0, locals := 132 }
set_option maxHeartbeats 4000000 in
set_option maxRecDepth 100000 in
theorem c_Mach_doPut {l : Launch} {dC : Nat → ClassId} {dI : Nat → Nat → Nat} {a : Nat → Nat} {cI : ClassId} {L : Nat} {tt : Nat → Nat} {σ : St} {x1 x2 x3 : Int32} {q : St} (h : fMach_doPut L σ x1 x2 x3 = some q) : CV l (dC, dI) clA (tyX cI) (SXx tt) (wX a cI L σ) (wX a cI L q) y_Mach_doPut b_Mach_doPut 6 none rm_Mach_doPut [.ref (a 0), .int x1, .int x2, .int x3] := by
  refine CV_of (by decide) (Nat.le_of_ble_eq_true rfl) ?_
  intro pr e s m below meth c A ls C hr hl hI
  have hx := C.1
  have hb := C.2.1
  have hl : lv_has ls 6 [(0, .ref (a 0)), (1, .int x1), (2, .int x2), (3, .int x3)] := hl
  unfold fMach_doPut at h
  refine lv_aload_n hx hb d_Mach_doPut_0 rfl (lv_at hl 0 rfl) ?_
  refine gf_Mach_37 C hI d_Mach_doPut_1 ?_
  refine lv_aload_n hx hb d_Mach_doPut_4 rfl (lv_at hl 0 rfl) ?_
  refine gf_Mach_37 C hI d_Mach_doPut_5 ?_
  refine gf_Mach_94 C hI (v := σ.1 11) rfl d_Mach_doPut_8 ?_
  refine lv_iload_n hx hb d_Mach_doPut_11 rfl (lv_at hl 1 rfl) ?_
  obtain ⟨p12, hp12, h⟩ := of_bind h
  refine rb_callI sxok C (c_Room_readRef hp12) cw_Mach_182 ⟨Nat.le_of_ble_eq_true rfl, Nat.le_of_ble_eq_true rfl⟩ ⟨rfl, rfl⟩ (q0 := 3) (ci := 3) rfl rfl hI ⟨Nat.zero_le _, Nat.zero_le _⟩ (As := [.int (σ.1 11), .int x1]) rfl hl.1 (rest := []) (Nat.le_of_ble_eq_true rfl) rfl d_Mach_doPut_12 (fun H locs hI => ?_)
  refine lv_istore (lv' := [(4, .int p12.1), (0, .ref (a 0)), (1, .int x1), (2, .int x2), (3, .int x3)]) hx hb d_Mach_doPut_15 hl (by decide) rfl (fun ls hl => ?_)
  refine lv_aload_n hx hb d_Mach_doPut_17 rfl (lv_at hl 1 rfl) ?_
  refine lv_iload hx hb d_Mach_doPut_18 (lv_at hl 0 rfl) ?_
  refine lv_iload_n hx hb d_Mach_doPut_20 rfl (lv_at hl 4 rfl) ?_
  obtain ⟨p21, hp21, h⟩ := of_bind h
  refine rb_callI sxok C (c_Mach_hasRef hp21) cw_Mach_248 ⟨Nat.le_of_ble_eq_true rfl, Nat.le_of_ble_eq_true rfl⟩ ⟨rfl, rfl⟩ (q0 := 0) (ci := 0) rfl rfl hI ⟨Nat.zero_le _, Nat.zero_le _⟩ (As := [.int p12.1, .int x3]) rfl hl.1 (rest := []) (Nat.le_of_ble_eq_true rfl) rfl d_Mach_doPut_21 (fun H locs hI => ?_)
  refine lv_if_ne (tgt := 28) hx hb d_Mach_doPut_24 (by decide) (fun hc => ?_) (fun hc => ?_)
  · replace h := of_neg hc h
    refine lv_aload_n hx hb d_Mach_doPut_28 rfl (lv_at hl 1 rfl) ?_
    refine gf_Mach_37 C hI d_Mach_doPut_29 ?_
    refine lv_aload_n hx hb d_Mach_doPut_32 rfl (lv_at hl 1 rfl) ?_
    refine gf_Mach_37 C hI d_Mach_doPut_33 ?_
    refine gf_Mach_94 C hI (v := p21.2.1 11) rfl d_Mach_doPut_36 ?_
    refine lv_iload_n hx hb d_Mach_doPut_39 rfl (lv_at hl 3 rfl) ?_
    obtain ⟨p40, hp40, h⟩ := of_bind h
    refine rb_callI sxok C (c_Room_readRef hp40) cw_Mach_182 ⟨Nat.le_of_ble_eq_true rfl, Nat.le_of_ble_eq_true rfl⟩ ⟨rfl, rfl⟩ (q0 := 3) (ci := 3) rfl rfl hI ⟨Nat.zero_le _, Nat.zero_le _⟩ (As := [.int (p21.2.1 11), .int x2]) rfl hl.1 (rest := []) (Nat.le_of_ble_eq_true rfl) rfl d_Mach_doPut_40 (fun H locs hI => ?_)
    refine lv_istore (lv' := [(5, .int p40.1), (4, .int p12.1), (0, .ref (a 0)), (1, .int x1), (2, .int x2), (3, .int x3)]) hx hb d_Mach_doPut_43 hl (by decide) rfl (fun ls hl => ?_)
    refine lv_aload_n hx hb d_Mach_doPut_45 rfl (lv_at hl 2 rfl) ?_
    refine gf_Mach_37 C hI d_Mach_doPut_46 ?_
    refine gf_Mach_121 C hI (v := p40.2.1 20) rfl d_Mach_doPut_49 ?_
    refine lv_if_ne (tgt := 67) hx hb d_Mach_doPut_52 (by decide) (fun hc => ?_) (fun hc => ?_)
    · replace h := of_neg hc h
      replace h := Option.some.inj h
      subst h
      exact rb_retV C hr hI d_Mach_doPut_67
    · replace h := of_pos hc h
      refine lv_aload_n hx hb d_Mach_doPut_55 rfl (lv_at hl 2 rfl) ?_
      refine gf_Mach_37 C hI d_Mach_doPut_56 ?_
      refine lv_iload hx hb d_Mach_doPut_59 (lv_at hl 1 rfl) ?_
      refine lv_iload_n hx hb d_Mach_doPut_61 rfl (lv_at hl 5 rfl) ?_
      refine lv_iload hx hb d_Mach_doPut_62 (lv_at hl 0 rfl) ?_
      obtain ⟨p64, hp64, h⟩ := of_bind h
      refine rb_callV sxok C (c_Room_setRef hp64) cw_Mach_209 ⟨Nat.le_of_ble_eq_true rfl, Nat.le_of_ble_eq_true rfl⟩ ⟨rfl, rfl⟩ (q0 := 3) (ci := 3) rfl rfl hI ⟨Nat.zero_le _, Nat.zero_le _⟩ (As := [.int p12.1, .int x3, .int p40.1]) rfl hl.1 (rest := []) (Nat.le_of_ble_eq_true rfl) rfl d_Mach_doPut_64 (fun H locs hI => ?_)
      replace h := Option.some.inj h
      subst h
      exact rb_retV C hr hI d_Mach_doPut_67
  · replace h := of_pos hc h
    replace h := Option.some.inj h
    subst h
    exact rb_retV C hr hI d_Mach_doPut_27
theorem d_Mach_hasInt_0 : decode b_Mach_hasInt 0 = .ok (.aload_n 0, 1) := by decide +kernel
theorem d_Mach_hasInt_1 : decode b_Mach_hasInt 1 = .ok (.iload_n 1, 1) := by decide +kernel
theorem d_Mach_hasInt_2 : decode b_Mach_hasInt 2 = .ok (.invokevirtual 255, 3) := by decide +kernel
theorem d_Mach_hasInt_5 : decode b_Mach_hasInt 5 = .ok (.ifCond .eq 23, 3) := by decide +kernel
theorem d_Mach_hasInt_8 : decode b_Mach_hasInt 8 = .ok (.aload_n 0, 1) := by decide +kernel
theorem d_Mach_hasInt_9 : decode b_Mach_hasInt 9 = .ok (.iload_n 2, 1) := by decide +kernel
theorem d_Mach_hasInt_10 : decode b_Mach_hasInt 10 = .ok (.aload_n 0, 1) := by decide +kernel
theorem d_Mach_hasInt_11 : decode b_Mach_hasInt 11 = .ok (.getfield 37, 3) := by decide +kernel
theorem d_Mach_hasInt_14 : decode b_Mach_hasInt 14 = .ok (.iload_n 1, 1) := by decide +kernel
theorem d_Mach_hasInt_15 : decode b_Mach_hasInt 15 = .ok (.invokevirtual 270, 3) := by decide +kernel
theorem d_Mach_hasInt_18 : decode b_Mach_hasInt 18 = .ok (.invokevirtual 267, 3) := by decide +kernel
theorem d_Mach_hasInt_21 : decode b_Mach_hasInt 21 = .ok (.ifCond .eq 7, 3) := by decide +kernel
theorem d_Mach_hasInt_24 : decode b_Mach_hasInt 24 = .ok (.iconst 1, 1) := by decide +kernel
theorem d_Mach_hasInt_25 : decode b_Mach_hasInt 25 = .ok (.goto 4, 3) := by decide +kernel
theorem d_Mach_hasInt_28 : decode b_Mach_hasInt 28 = .ok (.iconst 0, 1) := by decide +kernel
theorem d_Mach_hasInt_29 : decode b_Mach_hasInt 29 = .ok (.ireturn, 1) := by decide +kernel
abbrev rm_Mach_hasInt : Room := { frames := 2, cells := 0, slots := 0, locals := 43 }
set_option maxHeartbeats 4000000 in
set_option maxRecDepth 100000 in
theorem c_Mach_hasInt {l : Launch} {dC : Nat → ClassId} {dI : Nat → Nat → Nat} {a : Nat → Nat} {cI : ClassId} {L : Nat} {tt : Nat → Nat} {σ : St} {x1 x2 : Int32} {q : Int32 × St} (h : fMach_hasInt L σ x1 x2 = some q) : CI l (dC, dI) clA (tyX cI) (SXx tt) (wX a cI L σ) (wX a cI L q.2) y_Mach_hasInt b_Mach_hasInt 3 (some .boolean) rm_Mach_hasInt [.ref (a 0), .int x1, .int x2] q.1 := by
  refine CI_of (by decide) (Nat.le_of_ble_eq_true rfl) ?_
  intro pr e s m below meth c A ls C hr hl hI
  have hx := C.1
  have hb := C.2.1
  have hl : lv_has ls 3 [(0, .ref (a 0)), (1, .int x1), (2, .int x2)] := hl
  unfold fMach_hasInt at h
  refine lv_aload_n hx hb d_Mach_hasInt_0 rfl (lv_at hl 0 rfl) ?_
  refine lv_iload_n hx hb d_Mach_hasInt_1 rfl (lv_at hl 1 rfl) ?_
  obtain ⟨p2, hp2, h⟩ := of_bind h
  refine rb_callI sxok C (c_Mach_isThere hp2) cw_Mach_255 ⟨Nat.le_of_ble_eq_true rfl, Nat.le_of_ble_eq_true rfl⟩ ⟨rfl, rfl⟩ (q0 := 0) (ci := 0) rfl rfl hI ⟨Nat.zero_le _, Nat.zero_le _⟩ (As := [.int x1]) rfl hl.1 (rest := []) (Nat.le_of_ble_eq_true rfl) rfl d_Mach_hasInt_2 (fun H locs hI => ?_)
  refine lv_if_eq (tgt := 28) hx hb d_Mach_hasInt_5 (by decide) (fun hc => ?_) (fun hc => ?_)
  · replace h := of_pos hc h
    refine lv_iconst (v := 0) hx hb d_Mach_hasInt_28 (by decide) ?_
    replace h := Option.some.inj h
    subst h
    exact rb_retZ C hr (Or.inl rfl) hI d_Mach_hasInt_29
  · replace h := of_neg hc h
    refine lv_aload_n hx hb d_Mach_hasInt_8 rfl (lv_at hl 0 rfl) ?_
    refine lv_iload_n hx hb d_Mach_hasInt_9 rfl (lv_at hl 2 rfl) ?_
    refine lv_aload_n hx hb d_Mach_hasInt_10 rfl (lv_at hl 0 rfl) ?_
    refine gf_Mach_37 C hI d_Mach_hasInt_11 ?_
    refine lv_iload_n hx hb d_Mach_hasInt_14 rfl (lv_at hl 1 rfl) ?_
    obtain ⟨p15, hp15, h⟩ := of_bind h
    refine rb_callI sxok C (c_Room_intsOf hp15) cw_Mach_270 ⟨Nat.le_of_ble_eq_true rfl, Nat.le_of_ble_eq_true rfl⟩ ⟨rfl, rfl⟩ (q0 := 3) (ci := 3) rfl rfl hI ⟨Nat.zero_le _, Nat.zero_le _⟩ (As := [.int x1]) rfl hl.1 (rest := [.int x2, .ref (a 0)]) (Nat.le_of_ble_eq_true rfl) rfl d_Mach_hasInt_15 (fun H locs hI => ?_)
    obtain ⟨p18, hp18, h⟩ := of_bind h
    refine rb_callI sxok C (c_Mach_hasPart hp18) cw_Mach_267 ⟨Nat.le_of_ble_eq_true rfl, Nat.le_of_ble_eq_true rfl⟩ ⟨rfl, rfl⟩ (q0 := 0) (ci := 0) rfl rfl hI ⟨Nat.zero_le _, Nat.zero_le _⟩ (As := [.int x2, .int p15.1]) rfl hl.1 (rest := []) (Nat.le_of_ble_eq_true rfl) rfl d_Mach_hasInt_18 (fun H locs hI => ?_)
    refine lv_if_eq (tgt := 28) hx hb d_Mach_hasInt_21 (by decide) (fun hc => ?_) (fun hc => ?_)
    · replace h := of_pos hc h
      refine lv_iconst (v := 0) hx hb d_Mach_hasInt_28 (by decide) ?_
      replace h := Option.some.inj h
      subst h
      exact rb_retZ C hr (Or.inl rfl) hI d_Mach_hasInt_29
    · replace h := of_neg hc h
      refine lv_iconst (v := 1) hx hb d_Mach_hasInt_24 (by decide) ?_
      refine lv_goto (tgt := 29) hx hb d_Mach_hasInt_25 (by decide) ?_
      replace h := Option.some.inj h
      subst h
      exact rb_retZ C hr (Or.inr rfl) hI d_Mach_hasInt_29
theorem d_Mach_methodOfCurrent_0 : decode b_Mach_methodOfCurrent 0 = .ok (.aload_n 0, 1) := by decide +kernel
theorem d_Mach_methodOfCurrent_1 : decode b_Mach_methodOfCurrent 1 = .ok (.getfield 37, 3) := by decide +kernel
theorem d_Mach_methodOfCurrent_4 : decode b_Mach_methodOfCurrent 4 = .ok (.aload_n 0, 1) := by decide +kernel
theorem d_Mach_methodOfCurrent_5 : decode b_Mach_methodOfCurrent 5 = .ok (.getfield 37, 3) := by decide +kernel
theorem d_Mach_methodOfCurrent_8 : decode b_Mach_methodOfCurrent 8 = .ok (.getfield 94, 3) := by decide +kernel
theorem d_Mach_methodOfCurrent_11 : decode b_Mach_methodOfCurrent 11 = .ok (.invokevirtual 152, 3) := by decide +kernel
theorem d_Mach_methodOfCurrent_14 : decode b_Mach_methodOfCurrent 14 = .ok (.invokestatic 273, 3) := by decide +kernel
theorem d_Mach_methodOfCurrent_17 : decode b_Mach_methodOfCurrent 17 = .ok (.ireturn, 1) := by decide +kernel
abbrev rm_Mach_methodOfCurrent : Room := { frames := 1, cells := 0, slots := 0, locals := 21 }
set_option maxHeartbeats 4000000 in
set_option maxRecDepth 100000 in
theorem c_Mach_methodOfCurrent {l : Launch} {dC : Nat → ClassId} {dI : Nat → Nat → Nat} {a : Nat → Nat} {cI : ClassId} {L : Nat} {tt : Nat → Nat} {σ : St} {q : Int32 × St} (h : fMach_methodOfCurrent L σ = some q) : CI l (dC, dI) clA (tyX cI) (SXx tt) (wX a cI L σ) (wX a cI L q.2) y_Mach_methodOfCurrent b_Mach_methodOfCurrent 1 (some .int) rm_Mach_methodOfCurrent [.ref (a 0)] q.1 := by
  refine CI_of (by decide) (Nat.le_of_ble_eq_true rfl) ?_
  intro pr e s m below meth c A ls C hr hl hI
  have hx := C.1
  have hb := C.2.1
  have hl : lv_has ls 1 [(0, .ref (a 0))] := hl
  unfold fMach_methodOfCurrent at h
  refine lv_aload_n hx hb d_Mach_methodOfCurrent_0 rfl (lv_at hl 0 rfl) ?_
  refine gf_Mach_37 C hI d_Mach_methodOfCurrent_1 ?_
  refine lv_aload_n hx hb d_Mach_methodOfCurrent_4 rfl (lv_at hl 0 rfl) ?_
  refine gf_Mach_37 C hI d_Mach_methodOfCurrent_5 ?_
  refine gf_Mach_94 C hI (v := σ.1 11) rfl d_Mach_methodOfCurrent_8 ?_
  obtain ⟨p11, hp11, h⟩ := of_bind h
  refine rb_callI sxok C (c_Room_idOf hp11) cw_Mach_152 ⟨Nat.le_of_ble_eq_true rfl, Nat.le_of_ble_eq_true rfl⟩ ⟨rfl, rfl⟩ (q0 := 3) (ci := 3) rfl rfl hI ⟨Nat.zero_le _, Nat.zero_le _⟩ (As := [.int (σ.1 11)]) rfl hl.1 (rest := []) (Nat.le_of_ble_eq_true rfl) rfl d_Mach_methodOfCurrent_11 (fun H locs hI => ?_)
  obtain ⟨p14, hp14, h⟩ := of_bind h
  refine rb_callSI sxok C (c_Room_methodOfFrame hp14) cw_Mach_273 ⟨Nat.le_of_ble_eq_true rfl, Nat.le_of_ble_eq_true rfl⟩ ⟨rfl, rfl⟩ hI ⟨Nat.zero_le _, Nat.zero_le _⟩ (As := [.int p11.1]) rfl hl.1 (rest := []) (Nat.le_of_ble_eq_true rfl) rfl d_Mach_methodOfCurrent_14 (fun H locs hI => ?_)
  replace h := Option.some.inj h
  subst h
  exact rb_retI C hr hI d_Mach_methodOfCurrent_17
theorem d_Mach_numberIn_0 : decode b_Mach_numberIn 0 = .ok (.aload_n 0, 1) := by decide +kernel
theorem d_Mach_numberIn_1 : decode b_Mach_numberIn 1 = .ok (.getfield 37, 3) := by decide +kernel
theorem d_Mach_numberIn_4 : decode b_Mach_numberIn 4 = .ok (.aload_n 0, 1) := by decide +kernel
theorem d_Mach_numberIn_5 : decode b_Mach_numberIn 5 = .ok (.getfield 37, 3) := by decide +kernel
theorem d_Mach_numberIn_8 : decode b_Mach_numberIn 8 = .ok (.getfield 94, 3) := by decide +kernel
theorem d_Mach_numberIn_11 : decode b_Mach_numberIn 11 = .ok (.iload_n 1, 1) := by decide +kernel
theorem d_Mach_numberIn_12 : decode b_Mach_numberIn 12 = .ok (.invokevirtual 155, 3) := by decide +kernel
theorem d_Mach_numberIn_15 : decode b_Mach_numberIn 15 = .ok (.ireturn, 1) := by decide +kernel
abbrev rm_Mach_numberIn : Room := { frames := 3, cells := 0, slots := 0, locals := 63 }
set_option maxHeartbeats 4000000 in
set_option maxRecDepth 100000 in
theorem c_Mach_numberIn {l : Launch} {dC : Nat → ClassId} {dI : Nat → Nat → Nat} {a : Nat → Nat} {cI : ClassId} {L : Nat} {tt : Nat → Nat} {σ : St} {x1 : Int32} {q : Int32 × St} (h : fMach_numberIn L σ x1 = some q) : CI l (dC, dI) clA (tyX cI) (SXx tt) (wX a cI L σ) (wX a cI L q.2) y_Mach_numberIn b_Mach_numberIn 2 (some .int) rm_Mach_numberIn [.ref (a 0), .int x1] q.1 := by
  refine CI_of (by decide) (Nat.le_of_ble_eq_true rfl) ?_
  intro pr e s m below meth c A ls C hr hl hI
  have hx := C.1
  have hb := C.2.1
  have hl : lv_has ls 2 [(0, .ref (a 0)), (1, .int x1)] := hl
  unfold fMach_numberIn at h
  refine lv_aload_n hx hb d_Mach_numberIn_0 rfl (lv_at hl 0 rfl) ?_
  refine gf_Mach_37 C hI d_Mach_numberIn_1 ?_
  refine lv_aload_n hx hb d_Mach_numberIn_4 rfl (lv_at hl 0 rfl) ?_
  refine gf_Mach_37 C hI d_Mach_numberIn_5 ?_
  refine gf_Mach_94 C hI (v := σ.1 11) rfl d_Mach_numberIn_8 ?_
  refine lv_iload_n hx hb d_Mach_numberIn_11 rfl (lv_at hl 1 rfl) ?_
  obtain ⟨p12, hp12, h⟩ := of_bind h
  refine rb_callI sxok C (c_Room_intOf hp12) cw_Mach_155 ⟨Nat.le_of_ble_eq_true rfl, Nat.le_of_ble_eq_true rfl⟩ ⟨rfl, rfl⟩ (q0 := 3) (ci := 3) rfl rfl hI ⟨Nat.zero_le _, Nat.zero_le _⟩ (As := [.int (σ.1 11), .int x1]) rfl hl.1 (rest := []) (Nat.le_of_ble_eq_true rfl) rfl d_Mach_numberIn_12 (fun H locs hI => ?_)
  replace h := Option.some.inj h
  subst h
  exact rb_retI C hr hI d_Mach_numberIn_15
theorem d_Mach_doStore_0 : decode b_Mach_doStore 0 = .ok (.aload_n 0, 1) := by decide +kernel
theorem d_Mach_doStore_1 : decode b_Mach_doStore 1 = .ok (.getfield 37, 3) := by decide +kernel
theorem d_Mach_doStore_4 : decode b_Mach_doStore 4 = .ok (.aload_n 0, 1) := by decide +kernel
theorem d_Mach_doStore_5 : decode b_Mach_doStore 5 = .ok (.getfield 37, 3) := by decide +kernel
theorem d_Mach_doStore_8 : decode b_Mach_doStore 8 = .ok (.getfield 94, 3) := by decide +kernel
theorem d_Mach_doStore_11 : decode b_Mach_doStore 11 = .ok (.iload_n 1, 1) := by decide +kernel
theorem d_Mach_doStore_12 : decode b_Mach_doStore 12 = .ok (.invokevirtual 182, 3) := by decide +kernel
theorem d_Mach_doStore_15 : decode b_Mach_doStore 15 = .ok (.istore 4, 2) := by decide +kernel
theorem d_Mach_doStore_17 : decode b_Mach_doStore 17 = .ok (.aload_n 0, 1) := by decide +kernel
theorem d_Mach_doStore_18 : decode b_Mach_doStore 18 = .ok (.iload 4, 2) := by decide +kernel
theorem d_Mach_doStore_20 : decode b_Mach_doStore 20 = .ok (.iload_n 3, 1) := by decide +kernel
theorem d_Mach_doStore_21 : decode b_Mach_doStore 21 = .ok (.invokevirtual 252, 3) := by decide +kernel
theorem d_Mach_doStore_24 : decode b_Mach_doStore 24 = .ok (.ifCond .eq 18, 3) := by decide +kernel
theorem d_Mach_doStore_27 : decode b_Mach_doStore 27 = .ok (.aload_n 0, 1) := by decide +kernel
theorem d_Mach_doStore_28 : decode b_Mach_doStore 28 = .ok (.getfield 37, 3) := by decide +kernel
theorem d_Mach_doStore_31 : decode b_Mach_doStore 31 = .ok (.iload 4, 2) := by decide +kernel
theorem d_Mach_doStore_33 : decode b_Mach_doStore 33 = .ok (.iload_n 3, 1) := by decide +kernel
theorem d_Mach_doStore_34 : decode b_Mach_doStore 34 = .ok (.aload_n 0, 1) := by decide +kernel
theorem d_Mach_doStore_35 : decode b_Mach_doStore 35 = .ok (.iload_n 2, 1) := by decide +kernel
theorem d_Mach_doStore_36 : decode b_Mach_doStore 36 = .ok (.invokevirtual 200, 3) := by decide +kernel
theorem d_Mach_doStore_39 : decode b_Mach_doStore 39 = .ok (.invokevirtual 97, 3) := by decide +kernel
theorem d_Mach_doStore_42 : decode b_Mach_doStore 42 = .ok (.return_, 1) := by decide +kernel
abbrev rm_Mach_doStore : Room := { frames := 4, cells := 0, slots := 0, locals := 132 }
set_option maxHeartbeats 4000000 in
set_option maxRecDepth 100000 in
theorem c_Mach_doStore {l : Launch} {dC : Nat → ClassId} {dI : Nat → Nat → Nat} {a : Nat → Nat} {cI : ClassId} {L : Nat} {tt : Nat → Nat} {σ : St} {x1 x2 x3 : Int32} {q : St} (h : fMach_doStore L σ x1 x2 x3 = some q) : CV l (dC, dI) clA (tyX cI) (SXx tt) (wX a cI L σ) (wX a cI L q) y_Mach_doStore b_Mach_doStore 5 none rm_Mach_doStore [.ref (a 0), .int x1, .int x2, .int x3] := by
  refine CV_of (by decide) (Nat.le_of_ble_eq_true rfl) ?_
  intro pr e s m below meth c A ls C hr hl hI
  have hx := C.1
  have hb := C.2.1
  have hl : lv_has ls 5 [(0, .ref (a 0)), (1, .int x1), (2, .int x2), (3, .int x3)] := hl
  unfold fMach_doStore at h
  refine lv_aload_n hx hb d_Mach_doStore_0 rfl (lv_at hl 0 rfl) ?_
  refine gf_Mach_37 C hI d_Mach_doStore_1 ?_
  refine lv_aload_n hx hb d_Mach_doStore_4 rfl (lv_at hl 0 rfl) ?_
  refine gf_Mach_37 C hI d_Mach_doStore_5 ?_
  refine gf_Mach_94 C hI (v := σ.1 11) rfl d_Mach_doStore_8 ?_
  refine lv_iload_n hx hb d_Mach_doStore_11 rfl (lv_at hl 1 rfl) ?_
  obtain ⟨p12, hp12, h⟩ := of_bind h
  refine rb_callI sxok C (c_Room_readRef hp12) cw_Mach_182 ⟨Nat.le_of_ble_eq_true rfl, Nat.le_of_ble_eq_true rfl⟩ ⟨rfl, rfl⟩ (q0 := 3) (ci := 3) rfl rfl hI ⟨Nat.zero_le _, Nat.zero_le _⟩ (As := [.int (σ.1 11), .int x1]) rfl hl.1 (rest := []) (Nat.le_of_ble_eq_true rfl) rfl d_Mach_doStore_12 (fun H locs hI => ?_)
  refine lv_istore (lv' := [(4, .int p12.1), (0, .ref (a 0)), (1, .int x1), (2, .int x2), (3, .int x3)]) hx hb d_Mach_doStore_15 hl (by decide) rfl (fun ls hl => ?_)
  refine lv_aload_n hx hb d_Mach_doStore_17 rfl (lv_at hl 1 rfl) ?_
  refine lv_iload hx hb d_Mach_doStore_18 (lv_at hl 0 rfl) ?_
  refine lv_iload_n hx hb d_Mach_doStore_20 rfl (lv_at hl 4 rfl) ?_
  obtain ⟨p21, hp21, h⟩ := of_bind h
  refine rb_callI sxok C (c_Mach_hasInt hp21) cw_Mach_252 ⟨Nat.le_of_ble_eq_true rfl, Nat.le_of_ble_eq_true rfl⟩ ⟨rfl, rfl⟩ (q0 := 0) (ci := 0) rfl rfl hI ⟨Nat.zero_le _, Nat.zero_le _⟩ (As := [.int p12.1, .int x3]) rfl hl.1 (rest := []) (Nat.le_of_ble_eq_true rfl) rfl d_Mach_doStore_21 (fun H locs hI => ?_)
  refine lv_if_eq (tgt := 42) hx hb d_Mach_doStore_24 (by decide) (fun hc => ?_) (fun hc => ?_)
  · replace h := of_pos hc h
    replace h := Option.some.inj h
    subst h
    exact rb_retV C hr hI d_Mach_doStore_42
  · replace h := of_neg hc h
    refine lv_aload_n hx hb d_Mach_doStore_27 rfl (lv_at hl 1 rfl) ?_
    refine gf_Mach_37 C hI d_Mach_doStore_28 ?_
    refine lv_iload hx hb d_Mach_doStore_31 (lv_at hl 0 rfl) ?_
    refine lv_iload_n hx hb d_Mach_doStore_33 rfl (lv_at hl 4 rfl) ?_
    refine lv_aload_n hx hb d_Mach_doStore_34 rfl (lv_at hl 1 rfl) ?_
    refine lv_iload_n hx hb d_Mach_doStore_35 rfl (lv_at hl 3 rfl) ?_
    obtain ⟨p36, hp36, h⟩ := of_bind h
    refine rb_callI sxok C (c_Mach_numberIn hp36) cw_Mach_200 ⟨Nat.le_of_ble_eq_true rfl, Nat.le_of_ble_eq_true rfl⟩ ⟨rfl, rfl⟩ (q0 := 0) (ci := 0) rfl rfl hI ⟨Nat.zero_le _, Nat.zero_le _⟩ (As := [.int x2]) rfl hl.1 (rest := [.int x3, .int p12.1, .ref (a 3)]) (Nat.le_of_ble_eq_true rfl) rfl d_Mach_doStore_36 (fun H locs hI => ?_)
    obtain ⟨p39, hp39, h⟩ := of_bind h
    refine rb_callV sxok C (c_Room_setInt hp39) cw_Mach_97 ⟨Nat.le_of_ble_eq_true rfl, Nat.le_of_ble_eq_true rfl⟩ ⟨rfl, rfl⟩ (q0 := 3) (ci := 3) rfl rfl hI ⟨Nat.zero_le _, Nat.zero_le _⟩ (As := [.int p12.1, .int x3, .int p36.1]) rfl hl.1 (rest := []) (Nat.le_of_ble_eq_true rfl) rfl d_Mach_doStore_39 (fun H locs hI => ?_)
    replace h := Option.some.inj h
    subst h
    exact rb_retV C hr hI d_Mach_doStore_42
theorem d_Mach_enterFrame_0 : decode b_Mach_enterFrame 0 = .ok (.aload_n 0, 1) := by decide +kernel
theorem d_Mach_enterFrame_1 : decode b_Mach_enterFrame 1 = .ok (.getfield 37, 3) := by decide +kernel
theorem d_Mach_enterFrame_4 : decode b_Mach_enterFrame 4 = .ok (.iload_n 1, 1) := by decide +kernel
theorem d_Mach_enterFrame_5 : decode b_Mach_enterFrame 5 = .ok (.iconst 0, 1) := by decide +kernel
theorem d_Mach_enterFrame_6 : decode b_Mach_enterFrame 6 = .ok (.iload_n 2, 1) := by decide +kernel
theorem d_Mach_enterFrame_7 : decode b_Mach_enterFrame 7 = .ok (.invokevirtual 209, 3) := by decide +kernel
theorem d_Mach_enterFrame_10 : decode b_Mach_enterFrame 10 = .ok (.aload_n 0, 1) := by decide +kernel
theorem d_Mach_enterFrame_11 : decode b_Mach_enterFrame 11 = .ok (.getfield 37, 3) := by decide +kernel
theorem d_Mach_enterFrame_14 : decode b_Mach_enterFrame 14 = .ok (.iload_n 1, 1) := by decide +kernel
theorem d_Mach_enterFrame_15 : decode b_Mach_enterFrame 15 = .ok (.iconst 1, 1) := by decide +kernel
theorem d_Mach_enterFrame_16 : decode b_Mach_enterFrame 16 = .ok (.iload_n 3, 1) := by decide +kernel
theorem d_Mach_enterFrame_17 : decode b_Mach_enterFrame 17 = .ok (.invokevirtual 209, 3) := by decide +kernel
theorem d_Mach_enterFrame_20 : decode b_Mach_enterFrame 20 = .ok (.aload_n 0, 1) := by decide +kernel
theorem d_Mach_enterFrame_21 : decode b_Mach_enterFrame 21 = .ok (.getfield 37, 3) := by decide +kernel
theorem d_Mach_enterFrame_24 : decode b_Mach_enterFrame 24 = .ok (.iload_n 1, 1) := by decide +kernel
theorem d_Mach_enterFrame_25 : decode b_Mach_enterFrame 25 = .ok (.iconst 3, 1) := by decide +kernel
theorem d_Mach_enterFrame_26 : decode b_Mach_enterFrame 26 = .ok (.aload_n 0, 1) := by decide +kernel
theorem d_Mach_enterFrame_27 : decode b_Mach_enterFrame 27 = .ok (.getfield 37, 3) := by decide +kernel
theorem d_Mach_enterFrame_30 : decode b_Mach_enterFrame 30 = .ok (.getfield 94, 3) := by decide +kernel
theorem d_Mach_enterFrame_33 : decode b_Mach_enterFrame 33 = .ok (.invokevirtual 209, 3) := by decide +kernel
theorem d_Mach_enterFrame_36 : decode b_Mach_enterFrame 36 = .ok (.aload_n 0, 1) := by decide +kernel
theorem d_Mach_enterFrame_37 : decode b_Mach_enterFrame 37 = .ok (.getfield 37, 3) := by decide +kernel
theorem d_Mach_enterFrame_40 : decode b_Mach_enterFrame 40 = .ok (.iload_n 1, 1) := by decide +kernel
theorem d_Mach_enterFrame_41 : decode b_Mach_enterFrame 41 = .ok (.iconst 0, 1) := by decide +kernel
theorem d_Mach_enterFrame_42 : decode b_Mach_enterFrame 42 = .ok (.aload_n 0, 1) := by decide +kernel
theorem d_Mach_enterFrame_43 : decode b_Mach_enterFrame 43 = .ok (.iconst 0, 1) := by decide +kernel
theorem d_Mach_enterFrame_44 : decode b_Mach_enterFrame 44 = .ok (.invokevirtual 200, 3) := by decide +kernel
theorem d_Mach_enterFrame_47 : decode b_Mach_enterFrame 47 = .ok (.invokevirtual 97, 3) := by decide +kernel
theorem d_Mach_enterFrame_50 : decode b_Mach_enterFrame 50 = .ok (.aload_n 0, 1) := by decide +kernel
theorem d_Mach_enterFrame_51 : decode b_Mach_enterFrame 51 = .ok (.getfield 37, 3) := by decide +kernel
theorem d_Mach_enterFrame_54 : decode b_Mach_enterFrame 54 = .ok (.iload_n 1, 1) := by decide +kernel
theorem d_Mach_enterFrame_55 : decode b_Mach_enterFrame 55 = .ok (.putfield 94, 3) := by decide +kernel
theorem d_Mach_enterFrame_58 : decode b_Mach_enterFrame 58 = .ok (.return_, 1) := by decide +kernel
abbrev rm_Mach_enterFrame : Room := { frames := 4, cells := 0, slots := 0, locals := 84 }
set_option maxHeartbeats 4000000 in
set_option maxRecDepth 100000 in
theorem c_Mach_enterFrame {l : Launch} {dC : Nat → ClassId} {dI : Nat → Nat → Nat} {a : Nat → Nat} {cI : ClassId} {L : Nat} {tt : Nat → Nat} {σ : St} {x1 x2 x3 : Int32} {q : St} (h : fMach_enterFrame L σ x1 x2 x3 = some q) : CV l (dC, dI) clA (tyX cI) (SXx tt) (wX a cI L σ) (wX a cI L q) y_Mach_enterFrame b_Mach_enterFrame 4 none rm_Mach_enterFrame [.ref (a 0), .int x1, .int x2, .int x3] := by
  refine CV_of (by decide) (Nat.le_of_ble_eq_true rfl) ?_
  intro pr e s m below meth c A ls C hr hl hI
  have hx := C.1
  have hb := C.2.1
  have hl : lv_has ls 4 [(0, .ref (a 0)), (1, .int x1), (2, .int x2), (3, .int x3)] := hl
  unfold fMach_enterFrame at h
  refine lv_aload_n hx hb d_Mach_enterFrame_0 rfl (lv_at hl 0 rfl) ?_
  refine gf_Mach_37 C hI d_Mach_enterFrame_1 ?_
  refine lv_iload_n hx hb d_Mach_enterFrame_4 rfl (lv_at hl 1 rfl) ?_
  refine lv_iconst (v := 0) hx hb d_Mach_enterFrame_5 (by decide) ?_
  refine lv_iload_n hx hb d_Mach_enterFrame_6 rfl (lv_at hl 2 rfl) ?_
  obtain ⟨p7, hp7, h⟩ := of_bind h
  refine rb_callV sxok C (c_Room_setRef hp7) cw_Mach_209 ⟨Nat.le_of_ble_eq_true rfl, Nat.le_of_ble_eq_true rfl⟩ ⟨rfl, rfl⟩ (q0 := 3) (ci := 3) rfl rfl hI ⟨Nat.zero_le _, Nat.zero_le _⟩ (As := [.int x1, .int 0, .int x2]) rfl hl.1 (rest := []) (Nat.le_of_ble_eq_true rfl) rfl d_Mach_enterFrame_7 (fun H locs hI => ?_)
  refine lv_aload_n hx hb d_Mach_enterFrame_10 rfl (lv_at hl 0 rfl) ?_
  refine gf_Mach_37 C hI d_Mach_enterFrame_11 ?_
  refine lv_iload_n hx hb d_Mach_enterFrame_14 rfl (lv_at hl 1 rfl) ?_
  refine lv_iconst (v := 1) hx hb d_Mach_enterFrame_15 (by decide) ?_
  refine lv_iload_n hx hb d_Mach_enterFrame_16 rfl (lv_at hl 3 rfl) ?_
  obtain ⟨p17, hp17, h⟩ := of_bind h
  refine rb_callV sxok C (c_Room_setRef hp17) cw_Mach_209 ⟨Nat.le_of_ble_eq_true rfl, Nat.le_of_ble_eq_true rfl⟩ ⟨rfl, rfl⟩ (q0 := 3) (ci := 3) rfl rfl hI ⟨Nat.zero_le _, Nat.zero_le _⟩ (As := [.int x1, .int 1, .int x3]) rfl hl.1 (rest := []) (Nat.le_of_ble_eq_true rfl) rfl d_Mach_enterFrame_17 (fun H locs hI => ?_)
  refine lv_aload_n hx hb d_Mach_enterFrame_20 rfl (lv_at hl 0 rfl) ?_
  refine gf_Mach_37 C hI d_Mach_enterFrame_21 ?_
  refine lv_iload_n hx hb d_Mach_enterFrame_24 rfl (lv_at hl 1 rfl) ?_
  refine lv_iconst (v := 3) hx hb d_Mach_enterFrame_25 (by decide) ?_
  refine lv_aload_n hx hb d_Mach_enterFrame_26 rfl (lv_at hl 0 rfl) ?_
  refine gf_Mach_37 C hI d_Mach_enterFrame_27 ?_
  refine gf_Mach_94 C hI (v := p17.1 11) rfl d_Mach_enterFrame_30 ?_
  obtain ⟨p33, hp33, h⟩ := of_bind h
  refine rb_callV sxok C (c_Room_setRef hp33) cw_Mach_209 ⟨Nat.le_of_ble_eq_true rfl, Nat.le_of_ble_eq_true rfl⟩ ⟨rfl, rfl⟩ (q0 := 3) (ci := 3) rfl rfl hI ⟨Nat.zero_le _, Nat.zero_le _⟩ (As := [.int x1, .int 3, .int (p17.1 11)]) rfl hl.1 (rest := []) (Nat.le_of_ble_eq_true rfl) rfl d_Mach_enterFrame_33 (fun H locs hI => ?_)
  refine lv_aload_n hx hb d_Mach_enterFrame_36 rfl (lv_at hl 0 rfl) ?_
  refine gf_Mach_37 C hI d_Mach_enterFrame_37 ?_
  refine lv_iload_n hx hb d_Mach_enterFrame_40 rfl (lv_at hl 1 rfl) ?_
  refine lv_iconst (v := 0) hx hb d_Mach_enterFrame_41 (by decide) ?_
  refine lv_aload_n hx hb d_Mach_enterFrame_42 rfl (lv_at hl 0 rfl) ?_
  refine lv_iconst (v := 0) hx hb d_Mach_enterFrame_43 (by decide) ?_
  obtain ⟨p44, hp44, h⟩ := of_bind h
  refine rb_callI sxok C (c_Mach_numberIn hp44) cw_Mach_200 ⟨Nat.le_of_ble_eq_true rfl, Nat.le_of_ble_eq_true rfl⟩ ⟨rfl, rfl⟩ (q0 := 0) (ci := 0) rfl rfl hI ⟨Nat.zero_le _, Nat.zero_le _⟩ (As := [.int 0]) rfl hl.1 (rest := [.int 0, .int x1, .ref (a 3)]) (Nat.le_of_ble_eq_true rfl) rfl d_Mach_enterFrame_44 (fun H locs hI => ?_)
  obtain ⟨p47, hp47, h⟩ := of_bind h
  refine rb_callV sxok C (c_Room_setInt hp47) cw_Mach_97 ⟨Nat.le_of_ble_eq_true rfl, Nat.le_of_ble_eq_true rfl⟩ ⟨rfl, rfl⟩ (q0 := 3) (ci := 3) rfl rfl hI ⟨Nat.zero_le _, Nat.zero_le _⟩ (As := [.int x1, .int 0, .int p44.1]) rfl hl.1 (rest := []) (Nat.le_of_ble_eq_true rfl) rfl d_Mach_enterFrame_47 (fun H locs hI => ?_)
  refine lv_aload_n hx hb d_Mach_enterFrame_50 rfl (lv_at hl 0 rfl) ?_
  refine gf_Mach_37 C hI d_Mach_enterFrame_51 ?_
  refine lv_iload_n hx hb d_Mach_enterFrame_54 rfl (lv_at hl 1 rfl) ?_
  refine pf_Mach_94 C hI (σ' := (upd p47.1 11 x1, p47.2)) rfl d_Mach_enterFrame_55 (fun H locs hI => ?_)
  replace h := Option.some.inj h
  subst h
  exact rb_retV C hr hI d_Mach_enterFrame_58
theorem d_Mach_doShow_0 : decode b_Mach_doShow 0 = .ok (.aload_n 0, 1) := by decide +kernel
theorem d_Mach_doShow_1 : decode b_Mach_doShow 1 = .ok (.getfield 41, 3) := by decide +kernel
theorem d_Mach_doShow_4 : decode b_Mach_doShow 4 = .ok (.aload_n 0, 1) := by decide +kernel
theorem d_Mach_doShow_5 : decode b_Mach_doShow 5 = .ok (.getfield 106, 3) := by decide +kernel
theorem d_Mach_doShow_8 : decode b_Mach_doShow 8 = .ok (.invokestatic 124, 3) := by decide +kernel
theorem d_Mach_doShow_11 : decode b_Mach_doShow 11 = .ok (.aload_n 0, 1) := by decide +kernel
theorem d_Mach_doShow_12 : decode b_Mach_doShow 12 = .ok (.iload_n 1, 1) := by decide +kernel
theorem d_Mach_doShow_13 : decode b_Mach_doShow 13 = .ok (.invokevirtual 200, 3) := by decide +kernel
theorem d_Mach_doShow_16 : decode b_Mach_doShow 16 = .ok (.iastore, 1) := by decide +kernel
theorem d_Mach_doShow_17 : decode b_Mach_doShow 17 = .ok (.aload_n 0, 1) := by decide +kernel
theorem d_Mach_doShow_18 : decode b_Mach_doShow 18 = .ok (.dup, 1) := by decide +kernel
theorem d_Mach_doShow_19 : decode b_Mach_doShow 19 = .ok (.getfield 106, 3) := by decide +kernel
theorem d_Mach_doShow_22 : decode b_Mach_doShow 22 = .ok (.iconst 1, 1) := by decide +kernel
theorem d_Mach_doShow_23 : decode b_Mach_doShow 23 = .ok (.iadd, 1) := by decide +kernel
theorem d_Mach_doShow_24 : decode b_Mach_doShow 24 = .ok (.putfield 106, 3) := by decide +kernel
theorem d_Mach_doShow_27 : decode b_Mach_doShow 27 = .ok (.return_, 1) := by decide +kernel
abbrev rm_Mach_doShow : Room := { frames := 4, cells := 0, slots := 0, locals := 84 }
set_option maxHeartbeats 4000000 in
set_option maxRecDepth 100000 in
theorem c_Mach_doShow {l : Launch} {dC : Nat → ClassId} {dI : Nat → Nat → Nat} {a : Nat → Nat} {cI : ClassId} {L : Nat} {tt : Nat → Nat} {σ : St} {x1 : Int32} {q : St} (h : fMach_doShow L σ x1 = some q) : CV l (dC, dI) clA (tyX cI) (SXx tt) (wX a cI L σ) (wX a cI L q) y_Mach_doShow b_Mach_doShow 2 none rm_Mach_doShow [.ref (a 0), .int x1] := by
  refine CV_of (by decide) (Nat.le_of_ble_eq_true rfl) ?_
  intro pr e s m below meth c A ls C hr hl hI
  have hx := C.1
  have hb := C.2.1
  have hl : lv_has ls 2 [(0, .ref (a 0)), (1, .int x1)] := hl
  unfold fMach_doShow at h
  refine lv_aload_n hx hb d_Mach_doShow_0 rfl (lv_at hl 0 rfl) ?_
  refine gf_Mach_41 C hI d_Mach_doShow_1 ?_
  refine lv_aload_n hx hb d_Mach_doShow_4 rfl (lv_at hl 0 rfl) ?_
  refine gf_Mach_106 C hI (v := σ.1 0) rfl d_Mach_doShow_5 ?_
  obtain ⟨p8, hp8, h⟩ := of_bind h
  refine rb_callSI sxok C (c_Mach_slotOfShown hp8) cw_Mach_124 ⟨Nat.le_of_ble_eq_true rfl, Nat.le_of_ble_eq_true rfl⟩ ⟨rfl, rfl⟩ hI ⟨Nat.zero_le _, Nat.zero_le _⟩ (As := [.int (σ.1 0)]) rfl hl.1 (rest := [.ref (a 4)]) (Nat.le_of_ble_eq_true rfl) rfl d_Mach_doShow_8 (fun H locs hI => ?_)
  refine lv_aload_n hx hb d_Mach_doShow_11 rfl (lv_at hl 0 rfl) ?_
  refine lv_iload_n hx hb d_Mach_doShow_12 rfl (lv_at hl 1 rfl) ?_
  obtain ⟨p13, hp13, h⟩ := of_bind h
  refine rb_callI sxok C (c_Mach_numberIn hp13) cw_Mach_200 ⟨Nat.le_of_ble_eq_true rfl, Nat.le_of_ble_eq_true rfl⟩ ⟨rfl, rfl⟩ (q0 := 0) (ci := 0) rfl rfl hI ⟨Nat.zero_le _, Nat.zero_le _⟩ (As := [.int x1]) rfl hl.1 (rest := [.int p8.1, .ref (a 4)]) (Nat.le_of_ble_eq_true rfl) rfl d_Mach_doShow_13 (fun H locs hI => ?_)
  obtain ⟨hg16, h⟩ := of_guard h
  refine as_X_0 C hI (σ' := (p13.2.1, va_up p13.2.2 0 (upd (p13.2.2 0) p8.1.toNatClampNeg p13.1))) rfl hg16 d_Mach_doShow_16 (fun H locs hI => ?_)
  refine lv_aload_n hx hb d_Mach_doShow_17 rfl (lv_at hl 0 rfl) ?_
  refine lv_dup hx hb d_Mach_doShow_18 rfl ?_
  refine gf_Mach_106 C hI (v := p13.2.1 0) rfl d_Mach_doShow_19 ?_
  refine lv_iconst (v := 1) hx hb d_Mach_doShow_22 (by decide) ?_
  refine lv_iadd hx hb d_Mach_doShow_23 ?_
  refine pf_Mach_106 C hI (σ' := (upd p13.2.1 0 ((p13.2.1 0) + 1), va_up p13.2.2 0 (upd (p13.2.2 0) p8.1.toNatClampNeg p13.1))) rfl d_Mach_doShow_24 (fun H locs hI => ?_)
  replace h := Option.some.inj h
  subst h
  exact rb_retV C hr hI d_Mach_doShow_27
theorem d_Mach_setNumber_0 : decode b_Mach_setNumber 0 = .ok (.aload_n 0, 1) := by decide +kernel
theorem d_Mach_setNumber_1 : decode b_Mach_setNumber 1 = .ok (.getfield 37, 3) := by decide +kernel
theorem d_Mach_setNumber_4 : decode b_Mach_setNumber 4 = .ok (.aload_n 0, 1) := by decide +kernel
theorem d_Mach_setNumber_5 : decode b_Mach_setNumber 5 = .ok (.getfield 37, 3) := by decide +kernel
theorem d_Mach_setNumber_8 : decode b_Mach_setNumber 8 = .ok (.getfield 94, 3) := by decide +kernel
theorem d_Mach_setNumber_11 : decode b_Mach_setNumber 11 = .ok (.iload_n 1, 1) := by decide +kernel
theorem d_Mach_setNumber_12 : decode b_Mach_setNumber 12 = .ok (.iload_n 2, 1) := by decide +kernel
theorem d_Mach_setNumber_13 : decode b_Mach_setNumber 13 = .ok (.invokevirtual 97, 3) := by decide +kernel
theorem d_Mach_setNumber_16 : decode b_Mach_setNumber 16 = .ok (.return_, 1) := by decide +kernel
abbrev rm_Mach_setNumber : Room := { frames := 3, cells := 0, slots := 0, locals := 64 }
set_option maxHeartbeats 4000000 in
set_option maxRecDepth 100000 in
theorem c_Mach_setNumber {l : Launch} {dC : Nat → ClassId} {dI : Nat → Nat → Nat} {a : Nat → Nat} {cI : ClassId} {L : Nat} {tt : Nat → Nat} {σ : St} {x1 x2 : Int32} {q : St} (h : fMach_setNumber L σ x1 x2 = some q) : CV l (dC, dI) clA (tyX cI) (SXx tt) (wX a cI L σ) (wX a cI L q) y_Mach_setNumber b_Mach_setNumber 3 none rm_Mach_setNumber [.ref (a 0), .int x1, .int x2] := by
  refine CV_of (by decide) (Nat.le_of_ble_eq_true rfl) ?_
  intro pr e s m below meth c A ls C hr hl hI
  have hx := C.1
  have hb := C.2.1
  have hl : lv_has ls 3 [(0, .ref (a 0)), (1, .int x1), (2, .int x2)] := hl
  unfold fMach_setNumber at h
  refine lv_aload_n hx hb d_Mach_setNumber_0 rfl (lv_at hl 0 rfl) ?_
  refine gf_Mach_37 C hI d_Mach_setNumber_1 ?_
  refine lv_aload_n hx hb d_Mach_setNumber_4 rfl (lv_at hl 0 rfl) ?_
  refine gf_Mach_37 C hI d_Mach_setNumber_5 ?_
  refine gf_Mach_94 C hI (v := σ.1 11) rfl d_Mach_setNumber_8 ?_
  refine lv_iload_n hx hb d_Mach_setNumber_11 rfl (lv_at hl 1 rfl) ?_
  refine lv_iload_n hx hb d_Mach_setNumber_12 rfl (lv_at hl 2 rfl) ?_
  obtain ⟨p13, hp13, h⟩ := of_bind h
  refine rb_callV sxok C (c_Room_setInt hp13) cw_Mach_97 ⟨Nat.le_of_ble_eq_true rfl, Nat.le_of_ble_eq_true rfl⟩ ⟨rfl, rfl⟩ (q0 := 3) (ci := 3) rfl rfl hI ⟨Nat.zero_le _, Nat.zero_le _⟩ (As := [.int (σ.1 11), .int x1, .int x2]) rfl hl.1 (rest := []) (Nat.le_of_ble_eq_true rfl) rfl d_Mach_setNumber_13 (fun H locs hI => ?_)
  replace h := Option.some.inj h
  subst h
  exact rb_retV C hr hI d_Mach_setNumber_16
theorem d_Mach_doLoad_0 : decode b_Mach_doLoad 0 = .ok (.aload_n 0, 1) := by decide +kernel
theorem d_Mach_doLoad_1 : decode b_Mach_doLoad 1 = .ok (.getfield 37, 3) := by decide +kernel
theorem d_Mach_doLoad_4 : decode b_Mach_doLoad 4 = .ok (.aload_n 0, 1) := by decide +kernel
theorem d_Mach_doLoad_5 : decode b_Mach_doLoad 5 = .ok (.getfield 37, 3) := by decide +kernel
theorem d_Mach_doLoad_8 : decode b_Mach_doLoad 8 = .ok (.getfield 94, 3) := by decide +kernel
theorem d_Mach_doLoad_11 : decode b_Mach_doLoad 11 = .ok (.iload_n 2, 1) := by decide +kernel
theorem d_Mach_doLoad_12 : decode b_Mach_doLoad 12 = .ok (.invokevirtual 182, 3) := by decide +kernel
theorem d_Mach_doLoad_15 : decode b_Mach_doLoad 15 = .ok (.istore 4, 2) := by decide +kernel
theorem d_Mach_doLoad_17 : decode b_Mach_doLoad 17 = .ok (.aload_n 0, 1) := by decide +kernel
theorem d_Mach_doLoad_18 : decode b_Mach_doLoad 18 = .ok (.iload 4, 2) := by decide +kernel
theorem d_Mach_doLoad_20 : decode b_Mach_doLoad 20 = .ok (.iload_n 3, 1) := by decide +kernel
theorem d_Mach_doLoad_21 : decode b_Mach_doLoad 21 = .ok (.invokevirtual 252, 3) := by decide +kernel
theorem d_Mach_doLoad_24 : decode b_Mach_doLoad 24 = .ok (.ifCond .eq 18, 3) := by decide +kernel
theorem d_Mach_doLoad_27 : decode b_Mach_doLoad 27 = .ok (.aload_n 0, 1) := by decide +kernel
theorem d_Mach_doLoad_28 : decode b_Mach_doLoad 28 = .ok (.iload_n 1, 1) := by decide +kernel
theorem d_Mach_doLoad_29 : decode b_Mach_doLoad 29 = .ok (.aload_n 0, 1) := by decide +kernel
theorem d_Mach_doLoad_30 : decode b_Mach_doLoad 30 = .ok (.getfield 37, 3) := by decide +kernel
theorem d_Mach_doLoad_33 : decode b_Mach_doLoad 33 = .ok (.iload 4, 2) := by decide +kernel
theorem d_Mach_doLoad_35 : decode b_Mach_doLoad 35 = .ok (.iload_n 3, 1) := by decide +kernel
theorem d_Mach_doLoad_36 : decode b_Mach_doLoad 36 = .ok (.invokevirtual 155, 3) := by decide +kernel
theorem d_Mach_doLoad_39 : decode b_Mach_doLoad 39 = .ok (.invokevirtual 179, 3) := by decide +kernel
theorem d_Mach_doLoad_42 : decode b_Mach_doLoad 42 = .ok (.return_, 1) := by decide +kernel
abbrev rm_Mach_doLoad : Room := { frames := 4, cells := 0, slots := 0, locals := 132 }
set_option maxHeartbeats 4000000 in
set_option maxRecDepth 100000 in
theorem c_Mach_doLoad {l : Launch} {dC : Nat → ClassId} {dI : Nat → Nat → Nat} {a : Nat → Nat} {cI : ClassId} {L : Nat} {tt : Nat → Nat} {σ : St} {x1 x2 x3 : Int32} {q : St} (h : fMach_doLoad L σ x1 x2 x3 = some q) : CV l (dC, dI) clA (tyX cI) (SXx tt) (wX a cI L σ) (wX a cI L q) y_Mach_doLoad b_Mach_doLoad 5 none rm_Mach_doLoad [.ref (a 0), .int x1, .int x2, .int x3] := by
  refine CV_of (by decide) (Nat.le_of_ble_eq_true rfl) ?_
  intro pr e s m below meth c A ls C hr hl hI
  have hx := C.1
  have hb := C.2.1
  have hl : lv_has ls 5 [(0, .ref (a 0)), (1, .int x1), (2, .int x2), (3, .int x3)] := hl
  unfold fMach_doLoad at h
  refine lv_aload_n hx hb d_Mach_doLoad_0 rfl (lv_at hl 0 rfl) ?_
  refine gf_Mach_37 C hI d_Mach_doLoad_1 ?_
  refine lv_aload_n hx hb d_Mach_doLoad_4 rfl (lv_at hl 0 rfl) ?_
  refine gf_Mach_37 C hI d_Mach_doLoad_5 ?_
  refine gf_Mach_94 C hI (v := σ.1 11) rfl d_Mach_doLoad_8 ?_
  refine lv_iload_n hx hb d_Mach_doLoad_11 rfl (lv_at hl 2 rfl) ?_
  obtain ⟨p12, hp12, h⟩ := of_bind h
  refine rb_callI sxok C (c_Room_readRef hp12) cw_Mach_182 ⟨Nat.le_of_ble_eq_true rfl, Nat.le_of_ble_eq_true rfl⟩ ⟨rfl, rfl⟩ (q0 := 3) (ci := 3) rfl rfl hI ⟨Nat.zero_le _, Nat.zero_le _⟩ (As := [.int (σ.1 11), .int x2]) rfl hl.1 (rest := []) (Nat.le_of_ble_eq_true rfl) rfl d_Mach_doLoad_12 (fun H locs hI => ?_)
  refine lv_istore (lv' := [(4, .int p12.1), (0, .ref (a 0)), (1, .int x1), (2, .int x2), (3, .int x3)]) hx hb d_Mach_doLoad_15 hl (by decide) rfl (fun ls hl => ?_)
  refine lv_aload_n hx hb d_Mach_doLoad_17 rfl (lv_at hl 1 rfl) ?_
  refine lv_iload hx hb d_Mach_doLoad_18 (lv_at hl 0 rfl) ?_
  refine lv_iload_n hx hb d_Mach_doLoad_20 rfl (lv_at hl 4 rfl) ?_
  obtain ⟨p21, hp21, h⟩ := of_bind h
  refine rb_callI sxok C (c_Mach_hasInt hp21) cw_Mach_252 ⟨Nat.le_of_ble_eq_true rfl, Nat.le_of_ble_eq_true rfl⟩ ⟨rfl, rfl⟩ (q0 := 0) (ci := 0) rfl rfl hI ⟨Nat.zero_le _, Nat.zero_le _⟩ (As := [.int p12.1, .int x3]) rfl hl.1 (rest := []) (Nat.le_of_ble_eq_true rfl) rfl d_Mach_doLoad_21 (fun H locs hI => ?_)
  refine lv_if_eq (tgt := 42) hx hb d_Mach_doLoad_24 (by decide) (fun hc => ?_) (fun hc => ?_)
  · replace h := of_pos hc h
    replace h := Option.some.inj h
    subst h
    exact rb_retV C hr hI d_Mach_doLoad_42
  · replace h := of_neg hc h
    refine lv_aload_n hx hb d_Mach_doLoad_27 rfl (lv_at hl 1 rfl) ?_
    refine lv_iload_n hx hb d_Mach_doLoad_28 rfl (lv_at hl 2 rfl) ?_
    refine lv_aload_n hx hb d_Mach_doLoad_29 rfl (lv_at hl 1 rfl) ?_
    refine gf_Mach_37 C hI d_Mach_doLoad_30 ?_
    refine lv_iload hx hb d_Mach_doLoad_33 (lv_at hl 0 rfl) ?_
    refine lv_iload_n hx hb d_Mach_doLoad_35 rfl (lv_at hl 4 rfl) ?_
    obtain ⟨p36, hp36, h⟩ := of_bind h
    refine rb_callI sxok C (c_Room_intOf hp36) cw_Mach_155 ⟨Nat.le_of_ble_eq_true rfl, Nat.le_of_ble_eq_true rfl⟩ ⟨rfl, rfl⟩ (q0 := 3) (ci := 3) rfl rfl hI ⟨Nat.zero_le _, Nat.zero_le _⟩ (As := [.int p12.1, .int x3]) rfl hl.1 (rest := [.int x1, .ref (a 0)]) (Nat.le_of_ble_eq_true rfl) rfl d_Mach_doLoad_36 (fun H locs hI => ?_)
    obtain ⟨p39, hp39, h⟩ := of_bind h
    refine rb_callV sxok C (c_Mach_setNumber hp39) cw_Mach_179 ⟨Nat.le_of_ble_eq_true rfl, Nat.le_of_ble_eq_true rfl⟩ ⟨rfl, rfl⟩ (q0 := 0) (ci := 0) rfl rfl hI ⟨Nat.zero_le _, Nat.zero_le _⟩ (As := [.int x1, .int p36.1]) rfl hl.1 (rest := []) (Nat.le_of_ble_eq_true rfl) rfl d_Mach_doLoad_39 (fun H locs hI => ?_)
    replace h := Option.some.inj h
    subst h
    exact rb_retV C hr hI d_Mach_doLoad_42
theorem d_Mach_setPlace_0 : decode b_Mach_setPlace 0 = .ok (.aload_n 0, 1) := by decide +kernel
theorem d_Mach_setPlace_1 : decode b_Mach_setPlace 1 = .ok (.getfield 37, 3) := by decide +kernel
theorem d_Mach_setPlace_4 : decode b_Mach_setPlace 4 = .ok (.aload_n 0, 1) := by decide +kernel
theorem d_Mach_setPlace_5 : decode b_Mach_setPlace 5 = .ok (.getfield 37, 3) := by decide +kernel
theorem d_Mach_setPlace_8 : decode b_Mach_setPlace 8 = .ok (.getfield 94, 3) := by decide +kernel
theorem d_Mach_setPlace_11 : decode b_Mach_setPlace 11 = .ok (.iconst 3, 1) := by decide +kernel
theorem d_Mach_setPlace_12 : decode b_Mach_setPlace 12 = .ok (.iload_n 1, 1) := by decide +kernel
theorem d_Mach_setPlace_13 : decode b_Mach_setPlace 13 = .ok (.invokevirtual 97, 3) := by decide +kernel
theorem d_Mach_setPlace_16 : decode b_Mach_setPlace 16 = .ok (.return_, 1) := by decide +kernel
abbrev rm_Mach_setPlace : Room := { frames := 3, cells := 0, slots := 0, locals := 64 }
set_option maxHeartbeats 4000000 in
set_option maxRecDepth 100000 in
theorem c_Mach_setPlace {l : Launch} {dC : Nat → ClassId} {dI : Nat → Nat → Nat} {a : Nat → Nat} {cI : ClassId} {L : Nat} {tt : Nat → Nat} {σ : St} {x1 : Int32} {q : St} (h : fMach_setPlace L σ x1 = some q) : CV l (dC, dI) clA (tyX cI) (SXx tt) (wX a cI L σ) (wX a cI L q) y_Mach_setPlace b_Mach_setPlace 2 none rm_Mach_setPlace [.ref (a 0), .int x1] := by
  refine CV_of (by decide) (Nat.le_of_ble_eq_true rfl) ?_
  intro pr e s m below meth c A ls C hr hl hI
  have hx := C.1
  have hb := C.2.1
  have hl : lv_has ls 2 [(0, .ref (a 0)), (1, .int x1)] := hl
  unfold fMach_setPlace at h
  refine lv_aload_n hx hb d_Mach_setPlace_0 rfl (lv_at hl 0 rfl) ?_
  refine gf_Mach_37 C hI d_Mach_setPlace_1 ?_
  refine lv_aload_n hx hb d_Mach_setPlace_4 rfl (lv_at hl 0 rfl) ?_
  refine gf_Mach_37 C hI d_Mach_setPlace_5 ?_
  refine gf_Mach_94 C hI (v := σ.1 11) rfl d_Mach_setPlace_8 ?_
  refine lv_iconst (v := 3) hx hb d_Mach_setPlace_11 (by decide) ?_
  refine lv_iload_n hx hb d_Mach_setPlace_12 rfl (lv_at hl 1 rfl) ?_
  obtain ⟨p13, hp13, h⟩ := of_bind h
  refine rb_callV sxok C (c_Room_setInt hp13) cw_Mach_97 ⟨Nat.le_of_ble_eq_true rfl, Nat.le_of_ble_eq_true rfl⟩ ⟨rfl, rfl⟩ (q0 := 3) (ci := 3) rfl rfl hI ⟨Nat.zero_le _, Nat.zero_le _⟩ (As := [.int (σ.1 11), .int 3, .int x1]) rfl hl.1 (rest := []) (Nat.le_of_ble_eq_true rfl) rfl d_Mach_setPlace_13 (fun H locs hI => ?_)
  replace h := Option.some.inj h
  subst h
  exact rb_retV C hr hI d_Mach_setPlace_16
theorem d_Mach_doZero_0 : decode b_Mach_doZero 0 = .ok (.aload_n 0, 1) := by decide +kernel
theorem d_Mach_doZero_1 : decode b_Mach_doZero 1 = .ok (.iload_n 1, 1) := by decide +kernel
theorem d_Mach_doZero_2 : decode b_Mach_doZero 2 = .ok (.invokevirtual 200, 3) := by decide +kernel
theorem d_Mach_doZero_5 : decode b_Mach_doZero 5 = .ok (.ifCond .ne 8, 3) := by decide +kernel
theorem d_Mach_doZero_8 : decode b_Mach_doZero 8 = .ok (.aload_n 0, 1) := by decide +kernel
theorem d_Mach_doZero_9 : decode b_Mach_doZero 9 = .ok (.iload_n 2, 1) := by decide +kernel
theorem d_Mach_doZero_10 : decode b_Mach_doZero 10 = .ok (.invokevirtual 173, 3) := by decide +kernel
theorem d_Mach_doZero_13 : decode b_Mach_doZero 13 = .ok (.return_, 1) := by decide +kernel
abbrev rm_Mach_doZero : Room := { frames := 4, cells := 0, slots := 0, locals := 85 }
set_option maxHeartbeats 4000000 in
set_option maxRecDepth 100000 in
theorem c_Mach_doZero {l : Launch} {dC : Nat → ClassId} {dI : Nat → Nat → Nat} {a : Nat → Nat} {cI : ClassId} {L : Nat} {tt : Nat → Nat} {σ : St} {x1 x2 : Int32} {q : St} (h : fMach_doZero L σ x1 x2 = some q) : CV l (dC, dI) clA (tyX cI) (SXx tt) (wX a cI L σ) (wX a cI L q) y_Mach_doZero b_Mach_doZero 3 none rm_Mach_doZero [.ref (a 0), .int x1, .int x2] := by
  refine CV_of (by decide) (Nat.le_of_ble_eq_true rfl) ?_
  intro pr e s m below meth c A ls C hr hl hI
  have hx := C.1
  have hb := C.2.1
  have hl : lv_has ls 3 [(0, .ref (a 0)), (1, .int x1), (2, .int x2)] := hl
  unfold fMach_doZero at h
  refine lv_aload_n hx hb d_Mach_doZero_0 rfl (lv_at hl 0 rfl) ?_
  refine lv_iload_n hx hb d_Mach_doZero_1 rfl (lv_at hl 1 rfl) ?_
  obtain ⟨p2, hp2, h⟩ := of_bind h
  refine rb_callI sxok C (c_Mach_numberIn hp2) cw_Mach_200 ⟨Nat.le_of_ble_eq_true rfl, Nat.le_of_ble_eq_true rfl⟩ ⟨rfl, rfl⟩ (q0 := 0) (ci := 0) rfl rfl hI ⟨Nat.zero_le _, Nat.zero_le _⟩ (As := [.int x1]) rfl hl.1 (rest := []) (Nat.le_of_ble_eq_true rfl) rfl d_Mach_doZero_2 (fun H locs hI => ?_)
  refine lv_if_ne (tgt := 13) hx hb d_Mach_doZero_5 (by decide) (fun hc => ?_) (fun hc => ?_)
  · replace h := of_neg hc h
    replace h := Option.some.inj h
    subst h
    exact rb_retV C hr hI d_Mach_doZero_13
  · replace h := of_pos hc h
    refine lv_aload_n hx hb d_Mach_doZero_8 rfl (lv_at hl 0 rfl) ?_
    refine lv_iload_n hx hb d_Mach_doZero_9 rfl (lv_at hl 2 rfl) ?_
    obtain ⟨p10, hp10, h⟩ := of_bind h
    refine rb_callV sxok C (c_Mach_setPlace hp10) cw_Mach_173 ⟨Nat.le_of_ble_eq_true rfl, Nat.le_of_ble_eq_true rfl⟩ ⟨rfl, rfl⟩ (q0 := 0) (ci := 0) rfl rfl hI ⟨Nat.zero_le _, Nat.zero_le _⟩ (As := [.int x2]) rfl hl.1 (rest := []) (Nat.le_of_ble_eq_true rfl) rfl d_Mach_doZero_10 (fun H locs hI => ?_)
    replace h := Option.some.inj h
    subst h
    exact rb_retV C hr hI d_Mach_doZero_13
