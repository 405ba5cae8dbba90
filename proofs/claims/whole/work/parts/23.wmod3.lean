theorem d_Mod_start_0 : decode b_Mod_start 0 = .ok (.aload_n 0, 1) := by decide +kernel
theorem d_Mod_start_1 : decode b_Mod_start 1 = .ok (.iload_n 1, 1) := by decide +kernel
theorem d_Mod_start_2 : decode b_Mod_start 2 = .ok (.invokevirtual 80, 3) := by decide +kernel
theorem d_Mod_start_5 : decode b_Mod_start 5 = .ok (.ifCond .ne 5, 3) := by decide +kernel
theorem d_Mod_start_8 : decode b_Mod_start 8 = .ok (.iconst 0, 1) := by decide +kernel
theorem d_Mod_start_9 : decode b_Mod_start 9 = .ok (.ireturn, 1) := by decide +kernel
theorem d_Mod_start_10 : decode b_Mod_start 10 = .ok (.iconst 0, 1) := by decide +kernel
theorem d_Mod_start_11 : decode b_Mod_start 11 = .ok (.istore_n 3, 1) := by decide +kernel
theorem d_Mod_start_12 : decode b_Mod_start 12 = .ok (.iload_n 3, 1) := by decide +kernel
theorem d_Mod_start_13 : decode b_Mod_start 13 = .ok (.sipush 240, 3) := by decide +kernel
theorem d_Mod_start_16 : decode b_Mod_start 16 = .ok (.if_icmp .ge 16, 3) := by decide +kernel
theorem d_Mod_start_19 : decode b_Mod_start 19 = .ok (.aload_n 0, 1) := by decide +kernel
theorem d_Mod_start_20 : decode b_Mod_start 20 = .ok (.getfield 28, 3) := by decide +kernel
theorem d_Mod_start_23 : decode b_Mod_start 23 = .ok (.iload_n 3, 1) := by decide +kernel
theorem d_Mod_start_24 : decode b_Mod_start 24 = .ok (.iconst 0, 1) := by decide +kernel
theorem d_Mod_start_25 : decode b_Mod_start 25 = .ok (.iastore, 1) := by decide +kernel
theorem d_Mod_start_26 : decode b_Mod_start 26 = .ok (.iinc 3 1, 3) := by decide +kernel
theorem d_Mod_start_29 : decode b_Mod_start 29 = .ok (.goto (-17), 3) := by decide +kernel
theorem d_Mod_start_32 : decode b_Mod_start 32 = .ok (.aload_n 0, 1) := by decide +kernel
theorem d_Mod_start_33 : decode b_Mod_start 33 = .ok (.iconst 0, 1) := by decide +kernel
theorem d_Mod_start_34 : decode b_Mod_start 34 = .ok (.putfield 88, 3) := by decide +kernel
theorem d_Mod_start_37 : decode b_Mod_start 37 = .ok (.aload_n 0, 1) := by decide +kernel
theorem d_Mod_start_38 : decode b_Mod_start 38 = .ok (.iconst 0, 1) := by decide +kernel
theorem d_Mod_start_39 : decode b_Mod_start 39 = .ok (.putfield 95, 3) := by decide +kernel
theorem d_Mod_start_42 : decode b_Mod_start 42 = .ok (.aload_n 0, 1) := by decide +kernel
theorem d_Mod_start_43 : decode b_Mod_start 43 = .ok (.iconst 0, 1) := by decide +kernel
theorem d_Mod_start_44 : decode b_Mod_start 44 = .ok (.putfield 105, 3) := by decide +kernel
theorem d_Mod_start_47 : decode b_Mod_start 47 = .ok (.aload_n 0, 1) := by decide +kernel
theorem d_Mod_start_48 : decode b_Mod_start 48 = .ok (.iconst 0, 1) := by decide +kernel
theorem d_Mod_start_49 : decode b_Mod_start 49 = .ok (.putfield 108, 3) := by decide +kernel
theorem d_Mod_start_52 : decode b_Mod_start 52 = .ok (.aload_n 0, 1) := by decide +kernel
theorem d_Mod_start_53 : decode b_Mod_start 53 = .ok (.iconst 0, 1) := by decide +kernel
theorem d_Mod_start_54 : decode b_Mod_start 54 = .ok (.putfield 117, 3) := by decide +kernel
theorem d_Mod_start_57 : decode b_Mod_start 57 = .ok (.aload_n 0, 1) := by decide +kernel
theorem d_Mod_start_58 : decode b_Mod_start 58 = .ok (.iconst 0, 1) := by decide +kernel
theorem d_Mod_start_59 : decode b_Mod_start 59 = .ok (.putfield 137, 3) := by decide +kernel
theorem d_Mod_start_62 : decode b_Mod_start 62 = .ok (.aload_n 0, 1) := by decide +kernel
theorem d_Mod_start_63 : decode b_Mod_start 63 = .ok (.iconst 0, 1) := by decide +kernel
theorem d_Mod_start_64 : decode b_Mod_start 64 = .ok (.putfield 140, 3) := by decide +kernel
theorem d_Mod_start_67 : decode b_Mod_start 67 = .ok (.aload_n 0, 1) := by decide +kernel
theorem d_Mod_start_68 : decode b_Mod_start 68 = .ok (.iconst 0, 1) := by decide +kernel
theorem d_Mod_start_69 : decode b_Mod_start 69 = .ok (.putfield 143, 3) := by decide +kernel
theorem d_Mod_start_72 : decode b_Mod_start 72 = .ok (.aload_n 0, 1) := by decide +kernel
theorem d_Mod_start_73 : decode b_Mod_start 73 = .ok (.iconst 0, 1) := by decide +kernel
theorem d_Mod_start_74 : decode b_Mod_start 74 = .ok (.putfield 146, 3) := by decide +kernel
theorem d_Mod_start_77 : decode b_Mod_start 77 = .ok (.aload_n 0, 1) := by decide +kernel
theorem d_Mod_start_78 : decode b_Mod_start 78 = .ok (.iconst 0, 1) := by decide +kernel
theorem d_Mod_start_79 : decode b_Mod_start 79 = .ok (.putfield 53, 3) := by decide +kernel
theorem d_Mod_start_82 : decode b_Mod_start 82 = .ok (.aload_n 0, 1) := by decide +kernel
theorem d_Mod_start_83 : decode b_Mod_start 83 = .ok (.aload_n 0, 1) := by decide +kernel
theorem d_Mod_start_84 : decode b_Mod_start 84 = .ok (.iconst (-1), 1) := by decide +kernel
theorem d_Mod_start_85 : decode b_Mod_start 85 = .ok (.iload_n 1, 1) := by decide +kernel
theorem d_Mod_start_86 : decode b_Mod_start 86 = .ok (.invokevirtual 133, 3) := by decide +kernel
theorem d_Mod_start_89 : decode b_Mod_start 89 = .ok (.putfield 120, 3) := by decide +kernel
theorem d_Mod_start_92 : decode b_Mod_start 92 = .ok (.aload_n 0, 1) := by decide +kernel
theorem d_Mod_start_93 : decode b_Mod_start 93 = .ok (.getfield 40, 3) := by decide +kernel
theorem d_Mod_start_96 : decode b_Mod_start 96 = .ok (.iconst 4, 1) := by decide +kernel
theorem d_Mod_start_97 : decode b_Mod_start 97 = .ok (.aload_n 0, 1) := by decide +kernel
theorem d_Mod_start_98 : decode b_Mod_start 98 = .ok (.getfield 120, 3) := by decide +kernel
theorem d_Mod_start_101 : decode b_Mod_start 101 = .ok (.imul, 1) := by decide +kernel
theorem d_Mod_start_102 : decode b_Mod_start 102 = .ok (.iload_n 2, 1) := by decide +kernel
theorem d_Mod_start_103 : decode b_Mod_start 103 = .ok (.iastore, 1) := by decide +kernel
theorem d_Mod_start_104 : decode b_Mod_start 104 = .ok (.iconst 1, 1) := by decide +kernel
theorem d_Mod_start_105 : decode b_Mod_start 105 = .ok (.ireturn, 1) := by decide +kernel
abbrev rm_Mod_start : Room := { frames := 2, cells := 0, slots := 0, locals := 45 }
set_option maxHeartbeats 4000000 in
set_option maxRecDepth 100000 in
theorem b_Mod_start_B12 {l : Launch} {dC : Nat → ClassId} {dI : Nat → Nat → Nat} {a : Nat → Nat} {cI cZ : ClassId} {pr : Program} {e : Env} {s : State} {m : MethodId} {args : Array Value} {below : List Frame} {meth : Method} {c : Code} {A : Nat → Prop} {ls : Array Slot} {H : Heap} {locs : List Loc} {x1 x2 : Int32} {s0 : Int32 × St} {q : Nat × (Int32 × St)} {Q : State → Prop} (C : Cx (dC, dI) clA (tyM cI cZ) SXm pr s m args meth c b_Mod_start 4 y_Mod_start.cls A) (h : fMod_start_B12 x1 x2 s0 = some q) (hl : lv_has ls 4 [(0, .ref (a 0)), (1, .int x1), (2, .int x2), (3, .int s0.1)]) (hI : Wi (dC, dI) clA (wM a cI cZ s0.2) s A H locs) (kC : q.1 = 1 → ∀ (ls : Array Slot) (H : Heap) (locs : List Loc), lv_has ls 4 [(0, .ref (a 0)), (1, .int x1), (2, .int x2), (3, .int q.2.1)] → Wi (dC, dI) clA (wM a cI cZ q.2.2) s A H locs → W pr l e rm_Mod_start s m args below meth c H locs 0 0 Q (F0 m 12 ls [])) (kX0 : q.1 = 0 → ∀ (ls : Array Slot) (H : Heap) (locs : List Loc), lv_has ls 4 [(0, .ref (a 0)), (1, .int x1), (2, .int x2), (3, .int q.2.1)] → Wi (dC, dI) clA (wM a cI cZ q.2.2) s A H locs → W pr l e rm_Mod_start s m args below meth c H locs 0 0 Q (F0 m 32 ls [])) : W pr l e rm_Mod_start s m args below meth c H locs 0 0 Q (F0 m 12 ls []) := by
  have hx := C.1
  have hb := C.2.1
  unfold fMod_start_B12 at h
  refine lv_iload_n hx hb d_Mod_start_12 rfl (lv_at hl 3 rfl) ?_
  refine lv_sipush (v := 240) hx hb d_Mod_start_13 (by decide) ?_
  refine lv_icmp_ge (tgt := 32) hx hb d_Mod_start_16 (by decide) (fun hc => ?_) (fun hc => ?_)
  · replace h := of_pos hc h
    replace h := Option.some.inj h
    subst h
    exact kX0 rfl _ _ _ (lv_sub hl [0, 1, 2, 3] rfl) hI
  · replace h := of_neg hc h
    refine lv_aload_n hx hb d_Mod_start_19 rfl (lv_at hl 0 rfl) ?_
    refine gf_Mod_28 C hI d_Mod_start_20 ?_
    refine lv_iload_n hx hb d_Mod_start_23 rfl (lv_at hl 3 rfl) ?_
    refine lv_iconst (v := 0) hx hb d_Mod_start_24 (by decide) ?_
    obtain ⟨hg25, h⟩ := of_guard h
    refine as_M_6 C hI (σ' := (s0.2.1, va_up s0.2.2 6 (upd (s0.2.2 6) s0.1.toNatClampNeg 0))) rfl hg25 d_Mod_start_25 (fun H locs hI => ?_)
    refine lv_iinc (k := 3) (v := s0.1 + 1) (lv' := [(3, .int (s0.1 + 1)), (0, .ref (a 0)), (1, .int x1), (2, .int x2)]) hx hb d_Mod_start_26 hl rfl rfl (by decide) rfl (fun ls hl => ?_)
    refine lv_goto (tgt := 12) hx hb d_Mod_start_29 (by decide) ?_
    replace h := Option.some.inj h
    subst h
    exact kC rfl _ _ _ (lv_sub hl [1, 2, 3, 0] rfl) hI
set_option maxHeartbeats 4000000 in
set_option maxRecDepth 100000 in
theorem l_Mod_start_B12 {l : Launch} {dC : Nat → ClassId} {dI : Nat → Nat → Nat} {a : Nat → Nat} {cI cZ : ClassId} {pr : Program} {e : Env} {s : State} {m : MethodId} {args : Array Value} {below : List Frame} {meth : Method} {c : Code} {A : Nat → Prop} {x1 x2 : Int32} {Q : State → Prop} (C : Cx (dC, dI) clA (tyM cI cZ) SXm pr s m args meth c b_Mod_start 4 y_Mod_start.cls A) : ∀ (k : Nat) (s0 : Int32 × St) (q : Nat × (Int32 × St)) (ls : Array Slot) (H : Heap) (locs : List Loc), rbLoop (fMod_start_B12 x1 x2) k s0 = some q → lv_has ls 4 [(0, .ref (a 0)), (1, .int x1), (2, .int x2), (3, .int s0.1)] → Wi (dC, dI) clA (wM a cI cZ s0.2) s A H locs → (q.1 = 0 → ∀ (ls : Array Slot) (H : Heap) (locs : List Loc), lv_has ls 4 [(0, .ref (a 0)), (1, .int x1), (2, .int x2), (3, .int q.2.1)] → Wi (dC, dI) clA (wM a cI cZ q.2.2) s A H locs → W pr l e rm_Mod_start s m args below meth c H locs 0 0 Q (F0 m 32 ls [])) → W pr l e rm_Mod_start s m args below meth c H locs 0 0 Q (F0 m 12 ls []) := by
  intro k
  induction k with
  | zero => intro s0 q ls H locs h; cases h
  | succ k ih =>
    intro s0 q ls H locs h hl hI kX0
    obtain ⟨q1, hq1, h⟩ := rbLoop_succ h
    by_cases hc : q1.1 = 1
    · replace h := of_pos hc h
      refine b_Mod_start_B12 C hq1 hl hI (fun _ ls H locs hl hI => ih _ _ _ _ _ h hl hI kX0) (fun hz => absurd (hc.symm.trans hz) (by decide))
    · replace h := of_neg hc h
      cases h
      exact b_Mod_start_B12 C hq1 hl hI (fun hz => absurd hz hc) kX0
set_option maxHeartbeats 4000000 in
set_option maxRecDepth 100000 in
theorem c_Mod_start {l : Launch} {dC : Nat → ClassId} {dI : Nat → Nat → Nat} {a : Nat → Nat} {cI cZ : ClassId} {σ : St} {x1 x2 : Int32} {q : Int32 × St} (h : fMod_start σ x1 x2 = some q) : CI l (dC, dI) clA (tyM cI cZ) SXm (wM a cI cZ σ) (wM a cI cZ q.2) y_Mod_start b_Mod_start 4 (some .boolean) rm_Mod_start [.ref (a 0), .int x1, .int x2] q.1 := by
  refine CI_of (by decide) (Nat.le_of_ble_eq_true rfl) ?_
  intro pr e s m below meth c A ls C hr hl hI
  have hx := C.1
  have hb := C.2.1
  have hl : lv_has ls 4 [(0, .ref (a 0)), (1, .int x1), (2, .int x2)] := hl
  unfold fMod_start at h
  refine lv_aload_n hx hb d_Mod_start_0 rfl (lv_at hl 0 rfl) ?_
  refine lv_iload_n hx hb d_Mod_start_1 rfl (lv_at hl 1 rfl) ?_
  obtain ⟨p2, hp2, h⟩ := of_bind h
  refine rb_callI smok C (c_Mod_finished hp2) cw_Mod_80 ⟨Nat.le_of_ble_eq_true rfl, Nat.le_of_ble_eq_true rfl⟩ ⟨rfl, rfl⟩ (q0 := 0) (ci := 4) rfl rfl hI ⟨Nat.zero_le _, Nat.zero_le _⟩ (As := [.int x1]) rfl hl.1 (rest := []) (Nat.le_of_ble_eq_true rfl) rfl d_Mod_start_2 (fun H locs hI => ?_)
  refine lv_if_ne (tgt := 10) hx hb d_Mod_start_5 (by decide) (fun hc => ?_) (fun hc => ?_)
  · replace h := of_neg hc h
    refine lv_iconst (v := 0) hx hb d_Mod_start_10 (by decide) ?_
    refine lv_istore_n (lv' := [(3, .int 0), (0, .ref (a 0)), (1, .int x1), (2, .int x2)]) hx hb d_Mod_start_11 rfl hl (by decide) rfl (fun ls hl => ?_)
    obtain ⟨q12, hq12, h⟩ := of_bind h
    refine l_Mod_start_B12 C _ _ _ _ _ _ hq12 (lv_sub hl [1, 2, 3, 0] rfl) hI ?_
    intro _ ls H locs hl hI
    refine lv_aload_n hx hb d_Mod_start_32 rfl (lv_at hl 0 rfl) ?_
    refine lv_iconst (v := 0) hx hb d_Mod_start_33 (by decide) ?_
    refine pf_Mod_88 C hI (σ' := (upd q12.2.2.1 5 0, q12.2.2.2)) rfl d_Mod_start_34 (fun H locs hI => ?_)
    refine lv_aload_n hx hb d_Mod_start_37 rfl (lv_at hl 0 rfl) ?_
    refine lv_iconst (v := 0) hx hb d_Mod_start_38 (by decide) ?_
    refine pf_Mod_95 C hI (σ' := (upd (upd q12.2.2.1 5 0) 6 0, q12.2.2.2)) rfl d_Mod_start_39 (fun H locs hI => ?_)
    refine lv_aload_n hx hb d_Mod_start_42 rfl (lv_at hl 0 rfl) ?_
    refine lv_iconst (v := 0) hx hb d_Mod_start_43 (by decide) ?_
    refine pf_Mod_105 C hI (σ' := (upd (upd (upd q12.2.2.1 5 0) 6 0) 7 0, q12.2.2.2)) rfl d_Mod_start_44 (fun H locs hI => ?_)
    refine lv_aload_n hx hb d_Mod_start_47 rfl (lv_at hl 0 rfl) ?_
    refine lv_iconst (v := 0) hx hb d_Mod_start_48 (by decide) ?_
    refine pf_Mod_108 C hI (σ' := (upd (upd (upd (upd q12.2.2.1 5 0) 6 0) 7 0) 8 0, q12.2.2.2)) rfl d_Mod_start_49 (fun H locs hI => ?_)
    refine lv_aload_n hx hb d_Mod_start_52 rfl (lv_at hl 0 rfl) ?_
    refine lv_iconst (v := 0) hx hb d_Mod_start_53 (by decide) ?_
    refine pf_Mod_117 C hI (σ' := (upd (upd (upd (upd (upd q12.2.2.1 5 0) 6 0) 7 0) 8 0) 14 0, q12.2.2.2)) rfl d_Mod_start_54 (fun H locs hI => ?_)
    refine lv_aload_n hx hb d_Mod_start_57 rfl (lv_at hl 0 rfl) ?_
    refine lv_iconst (v := 0) hx hb d_Mod_start_58 (by decide) ?_
    refine pf_Mod_137 C hI (σ' := (upd (upd (upd (upd (upd (upd q12.2.2.1 5 0) 6 0) 7 0) 8 0) 14 0) 15 0, q12.2.2.2)) rfl d_Mod_start_59 (fun H locs hI => ?_)
    refine lv_aload_n hx hb d_Mod_start_62 rfl (lv_at hl 0 rfl) ?_
    refine lv_iconst (v := 0) hx hb d_Mod_start_63 (by decide) ?_
    refine pf_Mod_140 C hI (σ' := (upd (upd (upd (upd (upd (upd (upd q12.2.2.1 5 0) 6 0) 7 0) 8 0) 14 0) 15 0) 17 0, q12.2.2.2)) rfl d_Mod_start_64 (fun H locs hI => ?_)
    refine lv_aload_n hx hb d_Mod_start_67 rfl (lv_at hl 0 rfl) ?_
    refine lv_iconst (v := 0) hx hb d_Mod_start_68 (by decide) ?_
    refine pf_Mod_143 C hI (σ' := (upd (upd (upd (upd (upd (upd (upd (upd q12.2.2.1 5 0) 6 0) 7 0) 8 0) 14 0) 15 0) 17 0) 10 0, q12.2.2.2)) rfl (by decide) d_Mod_start_69 (fun H locs hI => ?_)
    refine lv_aload_n hx hb d_Mod_start_72 rfl (lv_at hl 0 rfl) ?_
    refine lv_iconst (v := 0) hx hb d_Mod_start_73 (by decide) ?_
    refine pf_Mod_146 C hI (σ' := (upd (upd (upd (upd (upd (upd (upd (upd (upd q12.2.2.1 5 0) 6 0) 7 0) 8 0) 14 0) 15 0) 17 0) 10 0) 13 0, q12.2.2.2)) rfl d_Mod_start_74 (fun H locs hI => ?_)
    refine lv_aload_n hx hb d_Mod_start_77 rfl (lv_at hl 0 rfl) ?_
    refine lv_iconst (v := 0) hx hb d_Mod_start_78 (by decide) ?_
    refine pf_Mod_53 C hI (σ' := (upd (upd (upd (upd (upd (upd (upd (upd (upd (upd q12.2.2.1 5 0) 6 0) 7 0) 8 0) 14 0) 15 0) 17 0) 10 0) 13 0) 12 0, q12.2.2.2)) rfl d_Mod_start_79 (fun H locs hI => ?_)
    refine lv_aload_n hx hb d_Mod_start_82 rfl (lv_at hl 0 rfl) ?_
    refine lv_aload_n hx hb d_Mod_start_83 rfl (lv_at hl 0 rfl) ?_
    refine lv_iconst (v := (-1)) hx hb d_Mod_start_84 (by decide) ?_
    refine lv_iload_n hx hb d_Mod_start_85 rfl (lv_at hl 1 rfl) ?_
    obtain ⟨p86, hp86, h⟩ := of_bind h
    refine rb_callI smok C (c_Mod_create hp86) cw_Mod_133 ⟨Nat.le_of_ble_eq_true rfl, Nat.le_of_ble_eq_true rfl⟩ ⟨rfl, rfl⟩ (q0 := 0) (ci := 4) rfl rfl hI ⟨Nat.zero_le _, Nat.zero_le _⟩ (As := [.int (-1), .int x1]) rfl hl.1 (rest := [.ref (a 0)]) (Nat.le_of_ble_eq_true rfl) rfl d_Mod_start_86 (fun H locs hI => ?_)
    refine pf_Mod_120 C hI (σ' := (upd p86.2.1 9 p86.1, p86.2.2)) rfl d_Mod_start_89 (fun H locs hI => ?_)
    refine lv_aload_n hx hb d_Mod_start_92 rfl (lv_at hl 0 rfl) ?_
    refine gf_Mod_40 C hI d_Mod_start_93 ?_
    refine lv_iconst (v := 4) hx hb d_Mod_start_96 (by decide) ?_
    refine lv_aload_n hx hb d_Mod_start_97 rfl (lv_at hl 0 rfl) ?_
    refine gf_Mod_120 C hI (v := p86.1) rfl d_Mod_start_98 ?_
    refine lv_imul hx hb d_Mod_start_101 ?_
    refine lv_iload_n hx hb d_Mod_start_102 rfl (lv_at hl 2 rfl) ?_
    obtain ⟨hg103, h⟩ := of_guard h
    refine as_M_10 C hI (σ' := (upd p86.2.1 9 p86.1, va_up p86.2.2 10 (upd (p86.2.2 10) ((4 : Int32) * p86.1).toNatClampNeg x2))) rfl hg103 d_Mod_start_103 (fun H locs hI => ?_)
    refine lv_iconst (v := 1) hx hb d_Mod_start_104 (by decide) ?_
    replace h := Option.some.inj h
    subst h
    exact rb_retZ C hr (Or.inr rfl) hI d_Mod_start_105
  · replace h := of_pos hc h
    refine lv_iconst (v := 0) hx hb d_Mod_start_8 (by decide) ?_
    replace h := Option.some.inj h
    subst h
    exact rb_retZ C hr (Or.inl rfl) hI d_Mod_start_9
theorem d_Mod_raise_0 : decode b_Mod_raise 0 = .ok (.aload_n 0, 1) := by decide +kernel
theorem d_Mod_raise_1 : decode b_Mod_raise 1 = .ok (.iconst 1, 1) := by decide +kernel
theorem d_Mod_raise_2 : decode b_Mod_raise 2 = .ok (.putfield 143, 3) := by decide +kernel
theorem d_Mod_raise_5 : decode b_Mod_raise 5 = .ok (.aload_n 0, 1) := by decide +kernel
theorem d_Mod_raise_6 : decode b_Mod_raise 6 = .ok (.iload_n 1, 1) := by decide +kernel
theorem d_Mod_raise_7 : decode b_Mod_raise 7 = .ok (.putfield 152, 3) := by decide +kernel
theorem d_Mod_raise_10 : decode b_Mod_raise 10 = .ok (.return_, 1) := by decide +kernel
abbrev rm_Mod_raise : Room := { frames := 0, cells := 0, slots := 0, locals := 0 }
set_option maxHeartbeats 4000000 in
set_option maxRecDepth 100000 in
theorem c_Mod_raise {l : Launch} {dC : Nat → ClassId} {dI : Nat → Nat → Nat} {a : Nat → Nat} {cI cZ : ClassId} {σ : St} {x1 : Int32} {q : St} (h : fMod_raise σ x1 = some q) : CV l (dC, dI) clA (tyM cI cZ) SXm (wM a cI cZ σ) (wM a cI cZ q) y_Mod_raise b_Mod_raise 2 none rm_Mod_raise [.ref (a 0), .int x1] := by
  refine CV_of (by decide) (Nat.le_of_ble_eq_true rfl) ?_
  intro pr e s m below meth c A ls C hr hl hI
  have hx := C.1
  have hb := C.2.1
  have hl : lv_has ls 2 [(0, .ref (a 0)), (1, .int x1)] := hl
  unfold fMod_raise at h
  refine lv_aload_n hx hb d_Mod_raise_0 rfl (lv_at hl 0 rfl) ?_
  refine lv_iconst (v := 1) hx hb d_Mod_raise_1 (by decide) ?_
  refine pf_Mod_143 C hI (σ' := (upd σ.1 10 1, σ.2)) rfl (by decide) d_Mod_raise_2 (fun H locs hI => ?_)
  refine lv_aload_n hx hb d_Mod_raise_5 rfl (lv_at hl 0 rfl) ?_
  refine lv_iload_n hx hb d_Mod_raise_6 rfl (lv_at hl 1 rfl) ?_
  refine pf_Mod_152 C hI (σ' := (upd (upd σ.1 10 1) 11 x1, σ.2)) rfl d_Mod_raise_7 (fun H locs hI => ?_)
  replace h := Option.some.inj h
  subst h
  exact rb_retV C hr hI d_Mod_raise_10
theorem d_Mod_unwind_0 : decode b_Mod_unwind 0 = .ok (.aload_n 0, 1) := by decide +kernel
theorem d_Mod_unwind_1 : decode b_Mod_unwind 1 = .ok (.getfield 19, 3) := by decide +kernel
theorem d_Mod_unwind_4 : decode b_Mod_unwind 4 = .ok (.aload_n 0, 1) := by decide +kernel
theorem d_Mod_unwind_5 : decode b_Mod_unwind 5 = .ok (.getfield 34, 3) := by decide +kernel
theorem d_Mod_unwind_8 : decode b_Mod_unwind 8 = .ok (.aload_n 0, 1) := by decide +kernel
theorem d_Mod_unwind_9 : decode b_Mod_unwind 9 = .ok (.getfield 120, 3) := by decide +kernel
theorem d_Mod_unwind_12 : decode b_Mod_unwind 12 = .ok (.iaload, 1) := by decide +kernel
theorem d_Mod_unwind_13 : decode b_Mod_unwind 13 = .ok (.iaload, 1) := by decide +kernel
theorem d_Mod_unwind_14 : decode b_Mod_unwind 14 = .ok (.istore_n 1, 1) := by decide +kernel
theorem d_Mod_unwind_15 : decode b_Mod_unwind 15 = .ok (.iload_n 1, 1) := by decide +kernel
theorem d_Mod_unwind_16 : decode b_Mod_unwind 16 = .ok (.ifCond .lt 42, 3) := by decide +kernel
theorem d_Mod_unwind_19 : decode b_Mod_unwind 19 = .ok (.aload_n 0, 1) := by decide +kernel
theorem d_Mod_unwind_20 : decode b_Mod_unwind 20 = .ok (.getfield 40, 3) := by decide +kernel
theorem d_Mod_unwind_23 : decode b_Mod_unwind 23 = .ok (.iconst 4, 1) := by decide +kernel
theorem d_Mod_unwind_24 : decode b_Mod_unwind 24 = .ok (.aload_n 0, 1) := by decide +kernel
theorem d_Mod_unwind_25 : decode b_Mod_unwind 25 = .ok (.getfield 120, 3) := by decide +kernel
theorem d_Mod_unwind_28 : decode b_Mod_unwind 28 = .ok (.imul, 1) := by decide +kernel
theorem d_Mod_unwind_29 : decode b_Mod_unwind 29 = .ok (.iconst 3, 1) := by decide +kernel
theorem d_Mod_unwind_30 : decode b_Mod_unwind 30 = .ok (.iadd, 1) := by decide +kernel
theorem d_Mod_unwind_31 : decode b_Mod_unwind 31 = .ok (.iload_n 1, 1) := by decide +kernel
theorem d_Mod_unwind_32 : decode b_Mod_unwind 32 = .ok (.iastore, 1) := by decide +kernel
theorem d_Mod_unwind_33 : decode b_Mod_unwind 33 = .ok (.aload_n 0, 1) := by decide +kernel
theorem d_Mod_unwind_34 : decode b_Mod_unwind 34 = .ok (.getfield 40, 3) := by decide +kernel
theorem d_Mod_unwind_37 : decode b_Mod_unwind 37 = .ok (.iconst 4, 1) := by decide +kernel
theorem d_Mod_unwind_38 : decode b_Mod_unwind 38 = .ok (.aload_n 0, 1) := by decide +kernel
theorem d_Mod_unwind_39 : decode b_Mod_unwind 39 = .ok (.getfield 120, 3) := by decide +kernel
theorem d_Mod_unwind_42 : decode b_Mod_unwind 42 = .ok (.imul, 1) := by decide +kernel
theorem d_Mod_unwind_43 : decode b_Mod_unwind 43 = .ok (.iconst 2, 1) := by decide +kernel
theorem d_Mod_unwind_44 : decode b_Mod_unwind 44 = .ok (.iadd, 1) := by decide +kernel
theorem d_Mod_unwind_45 : decode b_Mod_unwind 45 = .ok (.aload_n 0, 1) := by decide +kernel
theorem d_Mod_unwind_46 : decode b_Mod_unwind 46 = .ok (.getfield 152, 3) := by decide +kernel
theorem d_Mod_unwind_49 : decode b_Mod_unwind 49 = .ok (.iastore, 1) := by decide +kernel
theorem d_Mod_unwind_50 : decode b_Mod_unwind 50 = .ok (.aload_n 0, 1) := by decide +kernel
theorem d_Mod_unwind_51 : decode b_Mod_unwind 51 = .ok (.iconst 0, 1) := by decide +kernel
theorem d_Mod_unwind_52 : decode b_Mod_unwind 52 = .ok (.putfield 143, 3) := by decide +kernel
theorem d_Mod_unwind_55 : decode b_Mod_unwind 55 = .ok (.goto 68, 3) := by decide +kernel
theorem d_Mod_unwind_58 : decode b_Mod_unwind 58 = .ok (.aload_n 0, 1) := by decide +kernel
theorem d_Mod_unwind_59 : decode b_Mod_unwind 59 = .ok (.getfield 37, 3) := by decide +kernel
theorem d_Mod_unwind_62 : decode b_Mod_unwind 62 = .ok (.iconst 4, 1) := by decide +kernel
theorem d_Mod_unwind_63 : decode b_Mod_unwind 63 = .ok (.aload_n 0, 1) := by decide +kernel
theorem d_Mod_unwind_64 : decode b_Mod_unwind 64 = .ok (.getfield 120, 3) := by decide +kernel
theorem d_Mod_unwind_67 : decode b_Mod_unwind 67 = .ok (.imul, 1) := by decide +kernel
theorem d_Mod_unwind_68 : decode b_Mod_unwind 68 = .ok (.iconst 3, 1) := by decide +kernel
theorem d_Mod_unwind_69 : decode b_Mod_unwind 69 = .ok (.iadd, 1) := by decide +kernel
theorem d_Mod_unwind_70 : decode b_Mod_unwind 70 = .ok (.iaload, 1) := by decide +kernel
theorem d_Mod_unwind_71 : decode b_Mod_unwind 71 = .ok (.iconst (-1), 1) := by decide +kernel
theorem d_Mod_unwind_72 : decode b_Mod_unwind 72 = .ok (.if_icmp .ne 19, 3) := by decide +kernel
theorem d_Mod_unwind_75 : decode b_Mod_unwind 75 = .ok (.aload_n 0, 1) := by decide +kernel
theorem d_Mod_unwind_76 : decode b_Mod_unwind 76 = .ok (.iconst 2, 1) := by decide +kernel
theorem d_Mod_unwind_77 : decode b_Mod_unwind 77 = .ok (.putfield 53, 3) := by decide +kernel
theorem d_Mod_unwind_80 : decode b_Mod_unwind 80 = .ok (.aload_n 0, 1) := by decide +kernel
theorem d_Mod_unwind_81 : decode b_Mod_unwind 81 = .ok (.aload_n 0, 1) := by decide +kernel
theorem d_Mod_unwind_82 : decode b_Mod_unwind 82 = .ok (.getfield 152, 3) := by decide +kernel
theorem d_Mod_unwind_85 : decode b_Mod_unwind 85 = .ok (.putfield 146, 3) := by decide +kernel
theorem d_Mod_unwind_88 : decode b_Mod_unwind 88 = .ok (.goto 35, 3) := by decide +kernel
theorem d_Mod_unwind_91 : decode b_Mod_unwind 91 = .ok (.aload_n 0, 1) := by decide +kernel
theorem d_Mod_unwind_92 : decode b_Mod_unwind 92 = .ok (.iconst 4, 1) := by decide +kernel
theorem d_Mod_unwind_93 : decode b_Mod_unwind 93 = .ok (.aload_n 0, 1) := by decide +kernel
theorem d_Mod_unwind_94 : decode b_Mod_unwind 94 = .ok (.getfield 120, 3) := by decide +kernel
theorem d_Mod_unwind_97 : decode b_Mod_unwind 97 = .ok (.imul, 1) := by decide +kernel
theorem d_Mod_unwind_98 : decode b_Mod_unwind 98 = .ok (.iconst 3, 1) := by decide +kernel
theorem d_Mod_unwind_99 : decode b_Mod_unwind 99 = .ok (.iadd, 1) := by decide +kernel
theorem d_Mod_unwind_100 : decode b_Mod_unwind 100 = .ok (.invokevirtual 114, 3) := by decide +kernel
theorem d_Mod_unwind_103 : decode b_Mod_unwind 103 = .ok (.ifCond .eq 20, 3) := by decide +kernel
theorem d_Mod_unwind_106 : decode b_Mod_unwind 106 = .ok (.aload_n 0, 1) := by decide +kernel
theorem d_Mod_unwind_107 : decode b_Mod_unwind 107 = .ok (.aload_n 0, 1) := by decide +kernel
theorem d_Mod_unwind_108 : decode b_Mod_unwind 108 = .ok (.getfield 37, 3) := by decide +kernel
theorem d_Mod_unwind_111 : decode b_Mod_unwind 111 = .ok (.iconst 4, 1) := by decide +kernel
theorem d_Mod_unwind_112 : decode b_Mod_unwind 112 = .ok (.aload_n 0, 1) := by decide +kernel
theorem d_Mod_unwind_113 : decode b_Mod_unwind 113 = .ok (.getfield 120, 3) := by decide +kernel
theorem d_Mod_unwind_116 : decode b_Mod_unwind 116 = .ok (.imul, 1) := by decide +kernel
theorem d_Mod_unwind_117 : decode b_Mod_unwind 117 = .ok (.iconst 3, 1) := by decide +kernel
theorem d_Mod_unwind_118 : decode b_Mod_unwind 118 = .ok (.iadd, 1) := by decide +kernel
theorem d_Mod_unwind_119 : decode b_Mod_unwind 119 = .ok (.iaload, 1) := by decide +kernel
theorem d_Mod_unwind_120 : decode b_Mod_unwind 120 = .ok (.putfield 120, 3) := by decide +kernel
theorem d_Mod_unwind_123 : decode b_Mod_unwind 123 = .ok (.return_, 1) := by decide +kernel
abbrev rm_Mod_unwind : Room := { frames := 3, cells := 0, slots := 0, locals := 63 }
set_option maxHeartbeats 4000000 in
set_option maxRecDepth 100000 in
theorem c_Mod_unwind {l : Launch} {dC : Nat → ClassId} {dI : Nat → Nat → Nat} {a : Nat → Nat} {cI cZ : ClassId} {σ : St} {q : St} (h : fMod_unwind σ = some q) : CV l (dC, dI) clA (tyM cI cZ) SXm (wM a cI cZ σ) (wM a cI cZ q) y_Mod_unwind b_Mod_unwind 2 none rm_Mod_unwind [.ref (a 0)] := by
  refine CV_of (by decide) (Nat.le_of_ble_eq_true rfl) ?_
  intro pr e s m below meth c A ls C hr hl hI
  have hx := C.1
  have hb := C.2.1
  have hl : lv_has ls 2 [(0, .ref (a 0))] := hl
  unfold fMod_unwind at h
  refine lv_aload_n hx hb d_Mod_unwind_0 rfl (lv_at hl 0 rfl) ?_
  refine gf_Mod_19 C hI d_Mod_unwind_1 ?_
  refine lv_aload_n hx hb d_Mod_unwind_4 rfl (lv_at hl 0 rfl) ?_
  refine gf_Mod_34 C hI d_Mod_unwind_5 ?_
  refine lv_aload_n hx hb d_Mod_unwind_8 rfl (lv_at hl 0 rfl) ?_
  refine gf_Mod_120 C hI (v := σ.1 9) rfl d_Mod_unwind_9 ?_
  obtain ⟨hg12, h⟩ := of_guard h
  refine al_M_8 C hI (f := σ.2 8) rfl hg12 d_Mod_unwind_12 ?_
  obtain ⟨hg13, h⟩ := of_guard h
  refine al_M_3 C hI (f := σ.2 3) rfl hg13 d_Mod_unwind_13 ?_
  refine lv_istore_n (lv' := [(1, .int ((σ.2 3) ((σ.2 8) (σ.1 9).toNatClampNeg).toNatClampNeg)), (0, .ref (a 0))]) hx hb d_Mod_unwind_14 rfl hl (by decide) rfl (fun ls hl => ?_)
  refine lv_iload_n hx hb d_Mod_unwind_15 rfl (lv_at hl 0 rfl) ?_
  refine lv_if_lt (tgt := 58) hx hb d_Mod_unwind_16 (by decide) (fun hc => ?_) (fun hc => ?_)
  · replace h := of_pos hc h
    refine lv_aload_n hx hb d_Mod_unwind_58 rfl (lv_at hl 1 rfl) ?_
    refine gf_Mod_37 C hI d_Mod_unwind_59 ?_
    refine lv_iconst (v := 4) hx hb d_Mod_unwind_62 (by decide) ?_
    refine lv_aload_n hx hb d_Mod_unwind_63 rfl (lv_at hl 1 rfl) ?_
    refine gf_Mod_120 C hI (v := σ.1 9) rfl d_Mod_unwind_64 ?_
    refine lv_imul hx hb d_Mod_unwind_67 ?_
    refine lv_iconst (v := 3) hx hb d_Mod_unwind_68 (by decide) ?_
    refine lv_iadd hx hb d_Mod_unwind_69 ?_
    obtain ⟨hg70, h⟩ := of_guard h
    refine al_M_9 C hI (f := σ.2 9) rfl hg70 d_Mod_unwind_70 ?_
    refine lv_iconst (v := (-1)) hx hb d_Mod_unwind_71 (by decide) ?_
    refine lv_icmp_ne (tgt := 91) hx hb d_Mod_unwind_72 (by decide) (fun hc => ?_) (fun hc => ?_)
    · replace h := of_neg hc h
      refine lv_aload_n hx hb d_Mod_unwind_91 rfl (lv_at hl 1 rfl) ?_
      refine lv_iconst (v := 4) hx hb d_Mod_unwind_92 (by decide) ?_
      refine lv_aload_n hx hb d_Mod_unwind_93 rfl (lv_at hl 1 rfl) ?_
      refine gf_Mod_120 C hI (v := σ.1 9) rfl d_Mod_unwind_94 ?_
      refine lv_imul hx hb d_Mod_unwind_97 ?_
      refine lv_iconst (v := 3) hx hb d_Mod_unwind_98 (by decide) ?_
      refine lv_iadd hx hb d_Mod_unwind_99 ?_
      obtain ⟨p100, hp100, h⟩ := of_bind h
      refine rb_callI smok C (c_Mod_read hp100) cw_Mod_114 ⟨Nat.le_of_ble_eq_true rfl, Nat.le_of_ble_eq_true rfl⟩ ⟨rfl, rfl⟩ (q0 := 0) (ci := 4) rfl rfl hI ⟨Nat.zero_le _, Nat.zero_le _⟩ (As := [.int (((4 : Int32) * (σ.1 9)) + 3)]) rfl hl.1 (rest := []) (Nat.le_of_ble_eq_true rfl) rfl d_Mod_unwind_100 (fun H locs hI => ?_)
      refine lv_if_eq (tgt := 123) hx hb d_Mod_unwind_103 (by decide) (fun hc => ?_) (fun hc => ?_)
      · replace h := of_pos hc h
        replace h := Option.some.inj h
        subst h
        exact rb_retV C hr hI d_Mod_unwind_123
      · replace h := of_neg hc h
        refine lv_aload_n hx hb d_Mod_unwind_106 rfl (lv_at hl 1 rfl) ?_
        refine lv_aload_n hx hb d_Mod_unwind_107 rfl (lv_at hl 1 rfl) ?_
        refine gf_Mod_37 C hI d_Mod_unwind_108 ?_
        refine lv_iconst (v := 4) hx hb d_Mod_unwind_111 (by decide) ?_
        refine lv_aload_n hx hb d_Mod_unwind_112 rfl (lv_at hl 1 rfl) ?_
        refine gf_Mod_120 C hI (v := p100.2.1 9) rfl d_Mod_unwind_113 ?_
        refine lv_imul hx hb d_Mod_unwind_116 ?_
        refine lv_iconst (v := 3) hx hb d_Mod_unwind_117 (by decide) ?_
        refine lv_iadd hx hb d_Mod_unwind_118 ?_
        obtain ⟨hg119, h⟩ := of_guard h
        refine al_M_9 C hI (f := p100.2.2 9) rfl hg119 d_Mod_unwind_119 ?_
        refine pf_Mod_120 C hI (σ' := (upd p100.2.1 9 ((p100.2.2 9) (((4 : Int32) * (p100.2.1 9)) + 3).toNatClampNeg), p100.2.2)) rfl d_Mod_unwind_120 (fun H locs hI => ?_)
        replace h := Option.some.inj h
        subst h
        exact rb_retV C hr hI d_Mod_unwind_123
    · replace h := of_pos hc h
      refine lv_aload_n hx hb d_Mod_unwind_75 rfl (lv_at hl 1 rfl) ?_
      refine lv_iconst (v := 2) hx hb d_Mod_unwind_76 (by decide) ?_
      refine pf_Mod_53 C hI (σ' := (upd σ.1 12 2, σ.2)) rfl d_Mod_unwind_77 (fun H locs hI => ?_)
      refine lv_aload_n hx hb d_Mod_unwind_80 rfl (lv_at hl 1 rfl) ?_
      refine lv_aload_n hx hb d_Mod_unwind_81 rfl (lv_at hl 1 rfl) ?_
      refine gf_Mod_152 C hI (v := σ.1 11) rfl d_Mod_unwind_82 ?_
      refine pf_Mod_146 C hI (σ' := (upd (upd σ.1 12 2) 13 (σ.1 11), σ.2)) rfl d_Mod_unwind_85 (fun H locs hI => ?_)
      refine lv_goto (tgt := 123) hx hb d_Mod_unwind_88 (by decide) ?_
      replace h := Option.some.inj h
      subst h
      exact rb_retV C hr hI d_Mod_unwind_123
  · replace h := of_neg hc h
    refine lv_aload_n hx hb d_Mod_unwind_19 rfl (lv_at hl 1 rfl) ?_
    refine gf_Mod_40 C hI d_Mod_unwind_20 ?_
    refine lv_iconst (v := 4) hx hb d_Mod_unwind_23 (by decide) ?_
    refine lv_aload_n hx hb d_Mod_unwind_24 rfl (lv_at hl 1 rfl) ?_
    refine gf_Mod_120 C hI (v := σ.1 9) rfl d_Mod_unwind_25 ?_
    refine lv_imul hx hb d_Mod_unwind_28 ?_
    refine lv_iconst (v := 3) hx hb d_Mod_unwind_29 (by decide) ?_
    refine lv_iadd hx hb d_Mod_unwind_30 ?_
    refine lv_iload_n hx hb d_Mod_unwind_31 rfl (lv_at hl 0 rfl) ?_
    obtain ⟨hg32, h⟩ := of_guard h
    refine as_M_10 C hI (σ' := (σ.1, va_up σ.2 10 (upd (σ.2 10) (((4 : Int32) * (σ.1 9)) + 3).toNatClampNeg ((σ.2 3) ((σ.2 8) (σ.1 9).toNatClampNeg).toNatClampNeg)))) rfl hg32 d_Mod_unwind_32 (fun H locs hI => ?_)
    refine lv_aload_n hx hb d_Mod_unwind_33 rfl (lv_at hl 1 rfl) ?_
    refine gf_Mod_40 C hI d_Mod_unwind_34 ?_
    refine lv_iconst (v := 4) hx hb d_Mod_unwind_37 (by decide) ?_
    refine lv_aload_n hx hb d_Mod_unwind_38 rfl (lv_at hl 1 rfl) ?_
    refine gf_Mod_120 C hI (v := σ.1 9) rfl d_Mod_unwind_39 ?_
    refine lv_imul hx hb d_Mod_unwind_42 ?_
    refine lv_iconst (v := 2) hx hb d_Mod_unwind_43 (by decide) ?_
    refine lv_iadd hx hb d_Mod_unwind_44 ?_
    refine lv_aload_n hx hb d_Mod_unwind_45 rfl (lv_at hl 1 rfl) ?_
    refine gf_Mod_152 C hI (v := σ.1 11) rfl d_Mod_unwind_46 ?_
    obtain ⟨hg49, h⟩ := of_guard h
    refine as_M_10 C hI (σ' := (σ.1, va_up (va_up σ.2 10 (upd (σ.2 10) (((4 : Int32) * (σ.1 9)) + 3).toNatClampNeg ((σ.2 3) ((σ.2 8) (σ.1 9).toNatClampNeg).toNatClampNeg))) 10 (upd (upd (σ.2 10) (((4 : Int32) * (σ.1 9)) + 3).toNatClampNeg ((σ.2 3) ((σ.2 8) (σ.1 9).toNatClampNeg).toNatClampNeg)) (((4 : Int32) * (σ.1 9)) + 2).toNatClampNeg (σ.1 11)))) rfl hg49 d_Mod_unwind_49 (fun H locs hI => ?_)
    refine lv_aload_n hx hb d_Mod_unwind_50 rfl (lv_at hl 1 rfl) ?_
    refine lv_iconst (v := 0) hx hb d_Mod_unwind_51 (by decide) ?_
    refine pf_Mod_143 C hI (σ' := (upd σ.1 10 0, va_up (va_up σ.2 10 (upd (σ.2 10) (((4 : Int32) * (σ.1 9)) + 3).toNatClampNeg ((σ.2 3) ((σ.2 8) (σ.1 9).toNatClampNeg).toNatClampNeg))) 10 (upd (upd (σ.2 10) (((4 : Int32) * (σ.1 9)) + 3).toNatClampNeg ((σ.2 3) ((σ.2 8) (σ.1 9).toNatClampNeg).toNatClampNeg)) (((4 : Int32) * (σ.1 9)) + 2).toNatClampNeg (σ.1 11)))) rfl (by decide) d_Mod_unwind_52 (fun H locs hI => ?_)
    refine lv_goto (tgt := 123) hx hb d_Mod_unwind_55 (by decide) ?_
    replace h := Option.some.inj h
    subst h
    exact rb_retV C hr hI d_Mod_unwind_123
theorem d_Mod_show_0 : decode b_Mod_show 0 = .ok (.bipush 7, 2) := by decide +kernel
theorem d_Mod_show_2 : decode b_Mod_show 2 = .ok (.istore_n 2, 1) := by decide +kernel
theorem d_Mod_show_3 : decode b_Mod_show 3 = .ok (.iload_n 2, 1) := by decide +kernel
theorem d_Mod_show_4 : decode b_Mod_show 4 = .ok (.ifCond .le 23, 3) := by decide +kernel
theorem d_Mod_show_7 : decode b_Mod_show 7 = .ok (.aload_n 0, 1) := by decide +kernel
theorem d_Mod_show_8 : decode b_Mod_show 8 = .ok (.getfield 57, 3) := by decide +kernel
theorem d_Mod_show_11 : decode b_Mod_show 11 = .ok (.iload_n 2, 1) := by decide +kernel
theorem d_Mod_show_12 : decode b_Mod_show 12 = .ok (.aload_n 0, 1) := by decide +kernel
theorem d_Mod_show_13 : decode b_Mod_show 13 = .ok (.getfield 57, 3) := by decide +kernel
theorem d_Mod_show_16 : decode b_Mod_show 16 = .ok (.iload_n 2, 1) := by decide +kernel
theorem d_Mod_show_17 : decode b_Mod_show 17 = .ok (.iconst 1, 1) := by decide +kernel
theorem d_Mod_show_18 : decode b_Mod_show 18 = .ok (.isub, 1) := by decide +kernel
theorem d_Mod_show_19 : decode b_Mod_show 19 = .ok (.iaload, 1) := by decide +kernel
theorem d_Mod_show_20 : decode b_Mod_show 20 = .ok (.iastore, 1) := by decide +kernel
theorem d_Mod_show_21 : decode b_Mod_show 21 = .ok (.iinc 2 (-1), 3) := by decide +kernel
theorem d_Mod_show_24 : decode b_Mod_show 24 = .ok (.goto (-21), 3) := by decide +kernel
theorem d_Mod_show_27 : decode b_Mod_show 27 = .ok (.aload_n 0, 1) := by decide +kernel
theorem d_Mod_show_28 : decode b_Mod_show 28 = .ok (.getfield 57, 3) := by decide +kernel
theorem d_Mod_show_31 : decode b_Mod_show 31 = .ok (.iconst 0, 1) := by decide +kernel
theorem d_Mod_show_32 : decode b_Mod_show 32 = .ok (.iload_n 1, 1) := by decide +kernel
theorem d_Mod_show_33 : decode b_Mod_show 33 = .ok (.iastore, 1) := by decide +kernel
theorem d_Mod_show_34 : decode b_Mod_show 34 = .ok (.aload_n 0, 1) := by decide +kernel
theorem d_Mod_show_35 : decode b_Mod_show 35 = .ok (.dup, 1) := by decide +kernel
theorem d_Mod_show_36 : decode b_Mod_show 36 = .ok (.getfield 137, 3) := by decide +kernel
theorem d_Mod_show_39 : decode b_Mod_show 39 = .ok (.iconst 1, 1) := by decide +kernel
theorem d_Mod_show_40 : decode b_Mod_show 40 = .ok (.iadd, 1) := by decide +kernel
theorem d_Mod_show_41 : decode b_Mod_show 41 = .ok (.putfield 137, 3) := by decide +kernel
theorem d_Mod_show_44 : decode b_Mod_show 44 = .ok (.return_, 1) := by decide +kernel
abbrev rm_Mod_show : Room := { frames := 0, cells := 0, slots := 0, locals := 0 }
set_option maxHeartbeats 4000000 in
set_option maxRecDepth 100000 in
theorem b_Mod_show_B3 {l : Launch} {dC : Nat → ClassId} {dI : Nat → Nat → Nat} {a : Nat → Nat} {cI cZ : ClassId} {pr : Program} {e : Env} {s : State} {m : MethodId} {args : Array Value} {below : List Frame} {meth : Method} {c : Code} {A : Nat → Prop} {ls : Array Slot} {H : Heap} {locs : List Loc} {x1 : Int32} {s0 : Int32 × St} {q : Nat × (Int32 × St)} {Q : State → Prop} (C : Cx (dC, dI) clA (tyM cI cZ) SXm pr s m args meth c b_Mod_show 3 y_Mod_show.cls A) (h : fMod_show_B3 x1 s0 = some q) (hl : lv_has ls 3 [(0, .ref (a 0)), (1, .int x1), (2, .int s0.1)]) (hI : Wi (dC, dI) clA (wM a cI cZ s0.2) s A H locs) (kC : q.1 = 1 → ∀ (ls : Array Slot) (H : Heap) (locs : List Loc), lv_has ls 3 [(0, .ref (a 0)), (1, .int x1), (2, .int q.2.1)] → Wi (dC, dI) clA (wM a cI cZ q.2.2) s A H locs → W pr l e rm_Mod_show s m args below meth c H locs 0 0 Q (F0 m 3 ls [])) (kX0 : q.1 = 0 → ∀ (ls : Array Slot) (H : Heap) (locs : List Loc), lv_has ls 3 [(0, .ref (a 0)), (1, .int x1), (2, .int q.2.1)] → Wi (dC, dI) clA (wM a cI cZ q.2.2) s A H locs → W pr l e rm_Mod_show s m args below meth c H locs 0 0 Q (F0 m 27 ls [])) : W pr l e rm_Mod_show s m args below meth c H locs 0 0 Q (F0 m 3 ls []) := by
  have hx := C.1
  have hb := C.2.1
  unfold fMod_show_B3 at h
  refine lv_iload_n hx hb d_Mod_show_3 rfl (lv_at hl 2 rfl) ?_
  refine lv_if_le (tgt := 27) hx hb d_Mod_show_4 (by decide) (fun hc => ?_) (fun hc => ?_)
  · replace h := of_pos hc h
    replace h := Option.some.inj h
    subst h
    exact kX0 rfl _ _ _ (lv_sub hl [0, 1, 2] rfl) hI
  · replace h := of_neg hc h
    refine lv_aload_n hx hb d_Mod_show_7 rfl (lv_at hl 0 rfl) ?_
    refine gf_Mod_57 C hI d_Mod_show_8 ?_
    refine lv_iload_n hx hb d_Mod_show_11 rfl (lv_at hl 2 rfl) ?_
    refine lv_aload_n hx hb d_Mod_show_12 rfl (lv_at hl 0 rfl) ?_
    refine gf_Mod_57 C hI d_Mod_show_13 ?_
    refine lv_iload_n hx hb d_Mod_show_16 rfl (lv_at hl 2 rfl) ?_
    refine lv_iconst (v := 1) hx hb d_Mod_show_17 (by decide) ?_
    refine lv_isub hx hb d_Mod_show_18 ?_
    obtain ⟨hg19, h⟩ := of_guard h
    refine al_M_14 C hI (f := s0.2.2 14) rfl hg19 d_Mod_show_19 ?_
    obtain ⟨hg20, h⟩ := of_guard h
    refine as_M_14 C hI (σ' := (s0.2.1, va_up s0.2.2 14 (upd (s0.2.2 14) s0.1.toNatClampNeg ((s0.2.2 14) (s0.1 - 1).toNatClampNeg)))) rfl hg20 d_Mod_show_20 (fun H locs hI => ?_)
    refine lv_iinc (k := 2) (v := s0.1 + (-1)) (lv' := [(2, .int (s0.1 + (-1))), (0, .ref (a 0)), (1, .int x1)]) hx hb d_Mod_show_21 hl rfl rfl (by decide) rfl (fun ls hl => ?_)
    refine lv_goto (tgt := 3) hx hb d_Mod_show_24 (by decide) ?_
    replace h := Option.some.inj h
    subst h
    exact kC rfl _ _ _ (lv_sub hl [1, 2, 0] rfl) hI
set_option maxHeartbeats 4000000 in
set_option maxRecDepth 100000 in
theorem l_Mod_show_B3 {l : Launch} {dC : Nat → ClassId} {dI : Nat → Nat → Nat} {a : Nat → Nat} {cI cZ : ClassId} {pr : Program} {e : Env} {s : State} {m : MethodId} {args : Array Value} {below : List Frame} {meth : Method} {c : Code} {A : Nat → Prop} {x1 : Int32} {Q : State → Prop} (C : Cx (dC, dI) clA (tyM cI cZ) SXm pr s m args meth c b_Mod_show 3 y_Mod_show.cls A) : ∀ (k : Nat) (s0 : Int32 × St) (q : Nat × (Int32 × St)) (ls : Array Slot) (H : Heap) (locs : List Loc), rbLoop (fMod_show_B3 x1) k s0 = some q → lv_has ls 3 [(0, .ref (a 0)), (1, .int x1), (2, .int s0.1)] → Wi (dC, dI) clA (wM a cI cZ s0.2) s A H locs → (q.1 = 0 → ∀ (ls : Array Slot) (H : Heap) (locs : List Loc), lv_has ls 3 [(0, .ref (a 0)), (1, .int x1), (2, .int q.2.1)] → Wi (dC, dI) clA (wM a cI cZ q.2.2) s A H locs → W pr l e rm_Mod_show s m args below meth c H locs 0 0 Q (F0 m 27 ls [])) → W pr l e rm_Mod_show s m args below meth c H locs 0 0 Q (F0 m 3 ls []) := by
  intro k
  induction k with
  | zero => intro s0 q ls H locs h; cases h
  | succ k ih =>
    intro s0 q ls H locs h hl hI kX0
    obtain ⟨q1, hq1, h⟩ := rbLoop_succ h
    by_cases hc : q1.1 = 1
    · replace h := of_pos hc h
      refine b_Mod_show_B3 C hq1 hl hI (fun _ ls H locs hl hI => ih _ _ _ _ _ h hl hI kX0) (fun hz => absurd (hc.symm.trans hz) (by decide))
    · replace h := of_neg hc h
      cases h
      exact b_Mod_show_B3 C hq1 hl hI (fun hz => absurd hz hc) kX0
set_option maxHeartbeats 4000000 in
set_option maxRecDepth 100000 in
theorem c_Mod_show {l : Launch} {dC : Nat → ClassId} {dI : Nat → Nat → Nat} {a : Nat → Nat} {cI cZ : ClassId} {σ : St} {x1 : Int32} {q : St} (h : fMod_show σ x1 = some q) : CV l (dC, dI) clA (tyM cI cZ) SXm (wM a cI cZ σ) (wM a cI cZ q) y_Mod_show b_Mod_show 3 none rm_Mod_show [.ref (a 0), .int x1] := by
  refine CV_of (by decide) (Nat.le_of_ble_eq_true rfl) ?_
  intro pr e s m below meth c A ls C hr hl hI
  have hx := C.1
  have hb := C.2.1
  have hl : lv_has ls 3 [(0, .ref (a 0)), (1, .int x1)] := hl
  unfold fMod_show at h
  refine lv_bipush (v := 7) hx hb d_Mod_show_0 (by decide) ?_
  refine lv_istore_n (lv' := [(2, .int 7), (0, .ref (a 0)), (1, .int x1)]) hx hb d_Mod_show_2 rfl hl (by decide) rfl (fun ls hl => ?_)
  obtain ⟨q3, hq3, h⟩ := of_bind h
  refine l_Mod_show_B3 C _ _ _ _ _ _ hq3 (lv_sub hl [1, 2, 0] rfl) hI ?_
  intro _ ls H locs hl hI
  refine lv_aload_n hx hb d_Mod_show_27 rfl (lv_at hl 0 rfl) ?_
  refine gf_Mod_57 C hI d_Mod_show_28 ?_
  refine lv_iconst (v := 0) hx hb d_Mod_show_31 (by decide) ?_
  refine lv_iload_n hx hb d_Mod_show_32 rfl (lv_at hl 1 rfl) ?_
  obtain ⟨hg33, h⟩ := of_guard h
  refine as_M_14 C hI (σ' := (q3.2.2.1, va_up q3.2.2.2 14 (upd (q3.2.2.2 14) (0 : Int32).toNatClampNeg x1))) rfl hg33 d_Mod_show_33 (fun H locs hI => ?_)
  refine lv_aload_n hx hb d_Mod_show_34 rfl (lv_at hl 0 rfl) ?_
  refine lv_dup hx hb d_Mod_show_35 rfl ?_
  refine gf_Mod_137 C hI (v := q3.2.2.1 15) rfl d_Mod_show_36 ?_
  refine lv_iconst (v := 1) hx hb d_Mod_show_39 (by decide) ?_
  refine lv_iadd hx hb d_Mod_show_40 ?_
  refine pf_Mod_137 C hI (σ' := (upd q3.2.2.1 15 ((q3.2.2.1 15) + 1), va_up q3.2.2.2 14 (upd (q3.2.2.2 14) (0 : Int32).toNatClampNeg x1))) rfl d_Mod_show_41 (fun H locs hI => ?_)
  replace h := Option.some.inj h
  subst h
  exact rb_retV C hr hI d_Mod_show_44
theorem d_Mod_plain_0 : decode b_Mod_plain 0 = .ok (.iconst 4, 1) := by decide +kernel
theorem d_Mod_plain_1 : decode b_Mod_plain 1 = .ok (.aload_n 0, 1) := by decide +kernel
theorem d_Mod_plain_2 : decode b_Mod_plain 2 = .ok (.getfield 120, 3) := by decide +kernel
theorem d_Mod_plain_5 : decode b_Mod_plain 5 = .ok (.imul, 1) := by decide +kernel
theorem d_Mod_plain_6 : decode b_Mod_plain 6 = .ok (.istore 5, 2) := by decide +kernel
theorem d_Mod_plain_8 : decode b_Mod_plain 8 = .ok (.iload_n 1, 1) := by decide +kernel
theorem d_Mod_plain_9 : decode b_Mod_plain 9 = .ok (.ifCond .ne 14, 3) := by decide +kernel
theorem d_Mod_plain_12 : decode b_Mod_plain 12 = .ok (.aload_n 0, 1) := by decide +kernel
theorem d_Mod_plain_13 : decode b_Mod_plain 13 = .ok (.getfield 40, 3) := by decide +kernel
theorem d_Mod_plain_16 : decode b_Mod_plain 16 = .ok (.iload 5, 2) := by decide +kernel
theorem d_Mod_plain_18 : decode b_Mod_plain 18 = .ok (.iload_n 2, 1) := by decide +kernel
theorem d_Mod_plain_19 : decode b_Mod_plain 19 = .ok (.iadd, 1) := by decide +kernel
theorem d_Mod_plain_20 : decode b_Mod_plain 20 = .ok (.iload 4, 2) := by decide +kernel
theorem d_Mod_plain_22 : decode b_Mod_plain 22 = .ok (.iastore, 1) := by decide +kernel
theorem d_Mod_plain_23 : decode b_Mod_plain 23 = .ok (.iload_n 1, 1) := by decide +kernel
theorem d_Mod_plain_24 : decode b_Mod_plain 24 = .ok (.iconst 1, 1) := by decide +kernel
theorem d_Mod_plain_25 : decode b_Mod_plain 25 = .ok (.if_icmp .ne 32, 3) := by decide +kernel
theorem d_Mod_plain_28 : decode b_Mod_plain 28 = .ok (.aload_n 0, 1) := by decide +kernel
theorem d_Mod_plain_29 : decode b_Mod_plain 29 = .ok (.getfield 40, 3) := by decide +kernel
theorem d_Mod_plain_32 : decode b_Mod_plain 32 = .ok (.iload 5, 2) := by decide +kernel
theorem d_Mod_plain_34 : decode b_Mod_plain 34 = .ok (.iload_n 2, 1) := by decide +kernel
theorem d_Mod_plain_35 : decode b_Mod_plain 35 = .ok (.iadd, 1) := by decide +kernel
theorem d_Mod_plain_36 : decode b_Mod_plain 36 = .ok (.aload_n 0, 1) := by decide +kernel
theorem d_Mod_plain_37 : decode b_Mod_plain 37 = .ok (.getfield 40, 3) := by decide +kernel
theorem d_Mod_plain_40 : decode b_Mod_plain 40 = .ok (.iload 5, 2) := by decide +kernel
theorem d_Mod_plain_42 : decode b_Mod_plain 42 = .ok (.iload_n 3, 1) := by decide +kernel
theorem d_Mod_plain_43 : decode b_Mod_plain 43 = .ok (.iadd, 1) := by decide +kernel
theorem d_Mod_plain_44 : decode b_Mod_plain 44 = .ok (.iaload, 1) := by decide +kernel
theorem d_Mod_plain_45 : decode b_Mod_plain 45 = .ok (.aload_n 0, 1) := by decide +kernel
theorem d_Mod_plain_46 : decode b_Mod_plain 46 = .ok (.getfield 40, 3) := by decide +kernel
theorem d_Mod_plain_49 : decode b_Mod_plain 49 = .ok (.iload 5, 2) := by decide +kernel
theorem d_Mod_plain_51 : decode b_Mod_plain 51 = .ok (.iload 4, 2) := by decide +kernel
theorem d_Mod_plain_53 : decode b_Mod_plain 53 = .ok (.iadd, 1) := by decide +kernel
theorem d_Mod_plain_54 : decode b_Mod_plain 54 = .ok (.iaload, 1) := by decide +kernel
theorem d_Mod_plain_55 : decode b_Mod_plain 55 = .ok (.iadd, 1) := by decide +kernel
theorem d_Mod_plain_56 : decode b_Mod_plain 56 = .ok (.iastore, 1) := by decide +kernel
theorem d_Mod_plain_57 : decode b_Mod_plain 57 = .ok (.iload_n 1, 1) := by decide +kernel
theorem d_Mod_plain_58 : decode b_Mod_plain 58 = .ok (.iconst 2, 1) := by decide +kernel
theorem d_Mod_plain_59 : decode b_Mod_plain 59 = .ok (.if_icmp .ne 30, 3) := by decide +kernel
theorem d_Mod_plain_62 : decode b_Mod_plain 62 = .ok (.aload_n 0, 1) := by decide +kernel
theorem d_Mod_plain_63 : decode b_Mod_plain 63 = .ok (.iload 4, 2) := by decide +kernel
theorem d_Mod_plain_65 : decode b_Mod_plain 65 = .ok (.iconst 0, 1) := by decide +kernel
theorem d_Mod_plain_66 : decode b_Mod_plain 66 = .ok (.invokevirtual 173, 3) := by decide +kernel
theorem d_Mod_plain_69 : decode b_Mod_plain 69 = .ok (.istore 6, 2) := by decide +kernel
theorem d_Mod_plain_71 : decode b_Mod_plain 71 = .ok (.aload_n 0, 1) := by decide +kernel
theorem d_Mod_plain_72 : decode b_Mod_plain 72 = .ok (.getfield 53, 3) := by decide +kernel
theorem d_Mod_plain_75 : decode b_Mod_plain 75 = .ok (.ifCond .ne 14, 3) := by decide +kernel
theorem d_Mod_plain_78 : decode b_Mod_plain 78 = .ok (.aload_n 0, 1) := by decide +kernel
theorem d_Mod_plain_79 : decode b_Mod_plain 79 = .ok (.getfield 37, 3) := by decide +kernel
theorem d_Mod_plain_82 : decode b_Mod_plain 82 = .ok (.iload 5, 2) := by decide +kernel
theorem d_Mod_plain_84 : decode b_Mod_plain 84 = .ok (.iload_n 2, 1) := by decide +kernel
theorem d_Mod_plain_85 : decode b_Mod_plain 85 = .ok (.iadd, 1) := by decide +kernel
theorem d_Mod_plain_86 : decode b_Mod_plain 86 = .ok (.iload 6, 2) := by decide +kernel
theorem d_Mod_plain_88 : decode b_Mod_plain 88 = .ok (.iastore, 1) := by decide +kernel
theorem d_Mod_plain_89 : decode b_Mod_plain 89 = .ok (.iload_n 1, 1) := by decide +kernel
theorem d_Mod_plain_90 : decode b_Mod_plain 90 = .ok (.iconst 3, 1) := by decide +kernel
theorem d_Mod_plain_91 : decode b_Mod_plain 91 = .ok (.if_icmp .ne 32, 3) := by decide +kernel
theorem d_Mod_plain_94 : decode b_Mod_plain 94 = .ok (.aload_n 0, 1) := by decide +kernel
theorem d_Mod_plain_95 : decode b_Mod_plain 95 = .ok (.iload 5, 2) := by decide +kernel
theorem d_Mod_plain_97 : decode b_Mod_plain 97 = .ok (.iload_n 3, 1) := by decide +kernel
theorem d_Mod_plain_98 : decode b_Mod_plain 98 = .ok (.iadd, 1) := by decide +kernel
theorem d_Mod_plain_99 : decode b_Mod_plain 99 = .ok (.invokevirtual 114, 3) := by decide +kernel
theorem d_Mod_plain_102 : decode b_Mod_plain 102 = .ok (.ifCond .eq 21, 3) := by decide +kernel
theorem d_Mod_plain_105 : decode b_Mod_plain 105 = .ok (.aload_n 0, 1) := by decide +kernel
theorem d_Mod_plain_106 : decode b_Mod_plain 106 = .ok (.getfield 37, 3) := by decide +kernel
theorem d_Mod_plain_109 : decode b_Mod_plain 109 = .ok (.iload 5, 2) := by decide +kernel
theorem d_Mod_plain_111 : decode b_Mod_plain 111 = .ok (.iload_n 2, 1) := by decide +kernel
theorem d_Mod_plain_112 : decode b_Mod_plain 112 = .ok (.iadd, 1) := by decide +kernel
theorem d_Mod_plain_113 : decode b_Mod_plain 113 = .ok (.aload_n 0, 1) := by decide +kernel
theorem d_Mod_plain_114 : decode b_Mod_plain 114 = .ok (.getfield 37, 3) := by decide +kernel
theorem d_Mod_plain_117 : decode b_Mod_plain 117 = .ok (.iload 5, 2) := by decide +kernel
theorem d_Mod_plain_119 : decode b_Mod_plain 119 = .ok (.iload_n 3, 1) := by decide +kernel
theorem d_Mod_plain_120 : decode b_Mod_plain 120 = .ok (.iadd, 1) := by decide +kernel
theorem d_Mod_plain_121 : decode b_Mod_plain 121 = .ok (.iaload, 1) := by decide +kernel
theorem d_Mod_plain_122 : decode b_Mod_plain 122 = .ok (.iastore, 1) := by decide +kernel
theorem d_Mod_plain_123 : decode b_Mod_plain 123 = .ok (.iload_n 1, 1) := by decide +kernel
theorem d_Mod_plain_124 : decode b_Mod_plain 124 = .ok (.iconst 4, 1) := by decide +kernel
theorem d_Mod_plain_125 : decode b_Mod_plain 125 = .ok (.if_icmp .ne 13, 3) := by decide +kernel
theorem d_Mod_plain_128 : decode b_Mod_plain 128 = .ok (.aload_n 0, 1) := by decide +kernel
theorem d_Mod_plain_129 : decode b_Mod_plain 129 = .ok (.getfield 37, 3) := by decide +kernel
theorem d_Mod_plain_132 : decode b_Mod_plain 132 = .ok (.iload 5, 2) := by decide +kernel
theorem d_Mod_plain_134 : decode b_Mod_plain 134 = .ok (.iload_n 2, 1) := by decide +kernel
theorem d_Mod_plain_135 : decode b_Mod_plain 135 = .ok (.iadd, 1) := by decide +kernel
theorem d_Mod_plain_136 : decode b_Mod_plain 136 = .ok (.iconst (-1), 1) := by decide +kernel
theorem d_Mod_plain_137 : decode b_Mod_plain 137 = .ok (.iastore, 1) := by decide +kernel
theorem d_Mod_plain_138 : decode b_Mod_plain 138 = .ok (.iload_n 1, 1) := by decide +kernel
theorem d_Mod_plain_139 : decode b_Mod_plain 139 = .ok (.bipush 9, 2) := by decide +kernel
theorem d_Mod_plain_141 : decode b_Mod_plain 141 = .ok (.if_icmp .eq 21, 3) := by decide +kernel
theorem d_Mod_plain_144 : decode b_Mod_plain 144 = .ok (.iload_n 1, 1) := by decide +kernel
theorem d_Mod_plain_145 : decode b_Mod_plain 145 = .ok (.bipush 10, 2) := by decide +kernel
theorem d_Mod_plain_147 : decode b_Mod_plain 147 = .ok (.if_icmp .ne 26, 3) := by decide +kernel
theorem d_Mod_plain_150 : decode b_Mod_plain 150 = .ok (.aload_n 0, 1) := by decide +kernel
theorem d_Mod_plain_151 : decode b_Mod_plain 151 = .ok (.getfield 40, 3) := by decide +kernel
theorem d_Mod_plain_154 : decode b_Mod_plain 154 = .ok (.iload 5, 2) := by decide +kernel
theorem d_Mod_plain_156 : decode b_Mod_plain 156 = .ok (.iload_n 2, 1) := by decide +kernel
theorem d_Mod_plain_157 : decode b_Mod_plain 157 = .ok (.iadd, 1) := by decide +kernel
theorem d_Mod_plain_158 : decode b_Mod_plain 158 = .ok (.iaload, 1) := by decide +kernel
theorem d_Mod_plain_159 : decode b_Mod_plain 159 = .ok (.ifCond .ne 14, 3) := by decide +kernel
theorem d_Mod_plain_162 : decode b_Mod_plain 162 = .ok (.aload_n 0, 1) := by decide +kernel
theorem d_Mod_plain_163 : decode b_Mod_plain 163 = .ok (.getfield 40, 3) := by decide +kernel
theorem d_Mod_plain_166 : decode b_Mod_plain 166 = .ok (.iload 5, 2) := by decide +kernel
theorem d_Mod_plain_168 : decode b_Mod_plain 168 = .ok (.iconst 3, 1) := by decide +kernel
theorem d_Mod_plain_169 : decode b_Mod_plain 169 = .ok (.iadd, 1) := by decide +kernel
theorem d_Mod_plain_170 : decode b_Mod_plain 170 = .ok (.iload 4, 2) := by decide +kernel
theorem d_Mod_plain_172 : decode b_Mod_plain 172 = .ok (.iastore, 1) := by decide +kernel
theorem d_Mod_plain_173 : decode b_Mod_plain 173 = .ok (.iload_n 1, 1) := by decide +kernel
theorem d_Mod_plain_174 : decode b_Mod_plain 174 = .ok (.bipush 11, 2) := by decide +kernel
theorem d_Mod_plain_176 : decode b_Mod_plain 176 = .ok (.if_icmp .ne 38, 3) := by decide +kernel
theorem d_Mod_plain_179 : decode b_Mod_plain 179 = .ok (.aload_n 0, 1) := by decide +kernel
theorem d_Mod_plain_180 : decode b_Mod_plain 180 = .ok (.iload 5, 2) := by decide +kernel
theorem d_Mod_plain_182 : decode b_Mod_plain 182 = .ok (.iload_n 2, 1) := by decide +kernel
theorem d_Mod_plain_183 : decode b_Mod_plain 183 = .ok (.iadd, 1) := by decide +kernel
theorem d_Mod_plain_184 : decode b_Mod_plain 184 = .ok (.invokevirtual 114, 3) := by decide +kernel
theorem d_Mod_plain_187 : decode b_Mod_plain 187 = .ok (.ifCond .eq 27, 3) := by decide +kernel
theorem d_Mod_plain_190 : decode b_Mod_plain 190 = .ok (.aload_n 0, 1) := by decide +kernel
theorem d_Mod_plain_191 : decode b_Mod_plain 191 = .ok (.getfield 37, 3) := by decide +kernel
theorem d_Mod_plain_194 : decode b_Mod_plain 194 = .ok (.iload 5, 2) := by decide +kernel
theorem d_Mod_plain_196 : decode b_Mod_plain 196 = .ok (.iload_n 2, 1) := by decide +kernel
theorem d_Mod_plain_197 : decode b_Mod_plain 197 = .ok (.iadd, 1) := by decide +kernel
theorem d_Mod_plain_198 : decode b_Mod_plain 198 = .ok (.iaload, 1) := by decide +kernel
theorem d_Mod_plain_199 : decode b_Mod_plain 199 = .ok (.iconst (-1), 1) := by decide +kernel
theorem d_Mod_plain_200 : decode b_Mod_plain 200 = .ok (.if_icmp .ne 14, 3) := by decide +kernel
theorem d_Mod_plain_203 : decode b_Mod_plain 203 = .ok (.aload_n 0, 1) := by decide +kernel
theorem d_Mod_plain_204 : decode b_Mod_plain 204 = .ok (.getfield 40, 3) := by decide +kernel
theorem d_Mod_plain_207 : decode b_Mod_plain 207 = .ok (.iload 5, 2) := by decide +kernel
theorem d_Mod_plain_209 : decode b_Mod_plain 209 = .ok (.iconst 3, 1) := by decide +kernel
theorem d_Mod_plain_210 : decode b_Mod_plain 210 = .ok (.iadd, 1) := by decide +kernel
theorem d_Mod_plain_211 : decode b_Mod_plain 211 = .ok (.iload 4, 2) := by decide +kernel
theorem d_Mod_plain_213 : decode b_Mod_plain 213 = .ok (.iastore, 1) := by decide +kernel
theorem d_Mod_plain_214 : decode b_Mod_plain 214 = .ok (.iload_n 1, 1) := by decide +kernel
theorem d_Mod_plain_215 : decode b_Mod_plain 215 = .ok (.bipush 14, 2) := by decide +kernel
theorem d_Mod_plain_217 : decode b_Mod_plain 217 = .ok (.if_icmp .ne 16, 3) := by decide +kernel
theorem d_Mod_plain_220 : decode b_Mod_plain 220 = .ok (.aload_n 0, 1) := by decide +kernel
theorem d_Mod_plain_221 : decode b_Mod_plain 221 = .ok (.aload_n 0, 1) := by decide +kernel
theorem d_Mod_plain_222 : decode b_Mod_plain 222 = .ok (.getfield 40, 3) := by decide +kernel
theorem d_Mod_plain_225 : decode b_Mod_plain 225 = .ok (.iload 5, 2) := by decide +kernel
theorem d_Mod_plain_227 : decode b_Mod_plain 227 = .ok (.iload_n 2, 1) := by decide +kernel
theorem d_Mod_plain_228 : decode b_Mod_plain 228 = .ok (.iadd, 1) := by decide +kernel
theorem d_Mod_plain_229 : decode b_Mod_plain 229 = .ok (.iaload, 1) := by decide +kernel
theorem d_Mod_plain_230 : decode b_Mod_plain 230 = .ok (.invokevirtual 176, 3) := by decide +kernel
theorem d_Mod_plain_233 : decode b_Mod_plain 233 = .ok (.iload_n 1, 1) := by decide +kernel
theorem d_Mod_plain_234 : decode b_Mod_plain 234 = .ok (.bipush 15, 2) := by decide +kernel
theorem d_Mod_plain_236 : decode b_Mod_plain 236 = .ok (.if_icmp .ne 16, 3) := by decide +kernel
theorem d_Mod_plain_239 : decode b_Mod_plain 239 = .ok (.aload_n 0, 1) := by decide +kernel
theorem d_Mod_plain_240 : decode b_Mod_plain 240 = .ok (.aload_n 0, 1) := by decide +kernel
theorem d_Mod_plain_241 : decode b_Mod_plain 241 = .ok (.getfield 40, 3) := by decide +kernel
theorem d_Mod_plain_244 : decode b_Mod_plain 244 = .ok (.iload 5, 2) := by decide +kernel
theorem d_Mod_plain_246 : decode b_Mod_plain 246 = .ok (.iload_n 2, 1) := by decide +kernel
theorem d_Mod_plain_247 : decode b_Mod_plain 247 = .ok (.iadd, 1) := by decide +kernel
theorem d_Mod_plain_248 : decode b_Mod_plain 248 = .ok (.iaload, 1) := by decide +kernel
theorem d_Mod_plain_249 : decode b_Mod_plain 249 = .ok (.invokevirtual 179, 3) := by decide +kernel
theorem d_Mod_plain_252 : decode b_Mod_plain 252 = .ok (.return_, 1) := by decide +kernel
abbrev rm_Mod_plain : Room := { frames := 5, cells := 0, slots := 0, locals := 109 }
set_option maxHeartbeats 4000000 in
set_option maxRecDepth 100000 in
theorem j_Mod_plain_J233 {l : Launch} {dC : Nat → ClassId} {dI : Nat → Nat → Nat} {a : Nat → Nat} {cI cZ : ClassId} {pr : Program} {e : Env} {s : State} {m : MethodId} {args : Array Value} {below : List Frame} {meth : Method} {c : Code} {A : Nat → Prop} {ls : Array Slot} {H : Heap} {locs : List Loc} {σ : St} {x1 x2 x5 : Int32} {q : St} (C : Cx (dC, dI) clA (tyM cI cZ) SXm pr s m args meth c b_Mod_plain 7 y_Mod_plain.cls A) (hr : meth.sig.returnType = none) (h : fMod_plain_J233 σ x1 x2 x5 = some q) (hl : lv_has ls 7 [(0, .ref (a 0)), (1, .int x1), (2, .int x2), (5, .int x5)]) (hI : Wi (dC, dI) clA (wM a cI cZ σ) s A H locs)  : W pr l e rm_Mod_plain s m args below meth c H locs 0 0 (MQ below (rb_Qv (dC, dI) clA (tyM cI cZ) (wM a cI cZ q) A) args s 0 0 A) (F0 m 233 ls []) := by
  have hx := C.1
  have hb := C.2.1
  unfold fMod_plain_J233 at h
  refine lv_iload_n hx hb d_Mod_plain_233 rfl (lv_at hl 1 rfl) ?_
  refine lv_bipush (v := 15) hx hb d_Mod_plain_234 (by decide) ?_
  refine lv_icmp_ne (tgt := 252) hx hb d_Mod_plain_236 (by decide) (fun hc => ?_) (fun hc => ?_)
  · replace h := of_neg hc h
    replace h := Option.some.inj h
    subst h
    exact rb_retV C hr hI d_Mod_plain_252
  · replace h := of_pos hc h
    refine lv_aload_n hx hb d_Mod_plain_239 rfl (lv_at hl 0 rfl) ?_
    refine lv_aload_n hx hb d_Mod_plain_240 rfl (lv_at hl 0 rfl) ?_
    refine gf_Mod_40 C hI d_Mod_plain_241 ?_
    refine lv_iload hx hb d_Mod_plain_244 (lv_at hl 3 rfl) ?_
    refine lv_iload_n hx hb d_Mod_plain_246 rfl (lv_at hl 2 rfl) ?_
    refine lv_iadd hx hb d_Mod_plain_247 ?_
    obtain ⟨hg248, h⟩ := of_guard h
    refine al_M_10 C hI (f := σ.2 10) rfl hg248 d_Mod_plain_248 ?_
    obtain ⟨p249, hp249, h⟩ := of_bind h
    refine rb_callV smok C (c_Mod_show hp249) cw_Mod_179 ⟨Nat.le_of_ble_eq_true rfl, Nat.le_of_ble_eq_true rfl⟩ ⟨rfl, rfl⟩ (q0 := 0) (ci := 4) rfl rfl hI ⟨Nat.zero_le _, Nat.zero_le _⟩ (As := [.int ((σ.2 10) (x5 + x2).toNatClampNeg)]) rfl hl.1 (rest := []) (Nat.le_of_ble_eq_true rfl) rfl d_Mod_plain_249 (fun H locs hI => ?_)
    replace h := Option.some.inj h
    subst h
    exact rb_retV C hr hI d_Mod_plain_252
set_option maxHeartbeats 4000000 in
set_option maxRecDepth 100000 in
theorem j_Mod_plain_J214 {l : Launch} {dC : Nat → ClassId} {dI : Nat → Nat → Nat} {a : Nat → Nat} {cI cZ : ClassId} {pr : Program} {e : Env} {s : State} {m : MethodId} {args : Array Value} {below : List Frame} {meth : Method} {c : Code} {A : Nat → Prop} {ls : Array Slot} {H : Heap} {locs : List Loc} {σ : St} {x1 x2 x5 : Int32} {q : St} (C : Cx (dC, dI) clA (tyM cI cZ) SXm pr s m args meth c b_Mod_plain 7 y_Mod_plain.cls A) (hr : meth.sig.returnType = none) (h : fMod_plain_J214 σ x1 x2 x5 = some q) (hl : lv_has ls 7 [(0, .ref (a 0)), (1, .int x1), (2, .int x2), (5, .int x5)]) (hI : Wi (dC, dI) clA (wM a cI cZ σ) s A H locs)  : W pr l e rm_Mod_plain s m args below meth c H locs 0 0 (MQ below (rb_Qv (dC, dI) clA (tyM cI cZ) (wM a cI cZ q) A) args s 0 0 A) (F0 m 214 ls []) := by
  have hx := C.1
  have hb := C.2.1
  unfold fMod_plain_J214 at h
  refine lv_iload_n hx hb d_Mod_plain_214 rfl (lv_at hl 1 rfl) ?_
  refine lv_bipush (v := 14) hx hb d_Mod_plain_215 (by decide) ?_
  refine lv_icmp_ne (tgt := 233) hx hb d_Mod_plain_217 (by decide) (fun hc => ?_) (fun hc => ?_)
  · replace h := of_neg hc h
    exact j_Mod_plain_J233 C hr h (lv_sub hl [0, 1, 2, 3] rfl) hI
  · replace h := of_pos hc h
    refine lv_aload_n hx hb d_Mod_plain_220 rfl (lv_at hl 0 rfl) ?_
    refine lv_aload_n hx hb d_Mod_plain_221 rfl (lv_at hl 0 rfl) ?_
    refine gf_Mod_40 C hI d_Mod_plain_222 ?_
    refine lv_iload hx hb d_Mod_plain_225 (lv_at hl 3 rfl) ?_
    refine lv_iload_n hx hb d_Mod_plain_227 rfl (lv_at hl 2 rfl) ?_
    refine lv_iadd hx hb d_Mod_plain_228 ?_
    obtain ⟨hg229, h⟩ := of_guard h
    refine al_M_10 C hI (f := σ.2 10) rfl hg229 d_Mod_plain_229 ?_
    obtain ⟨p230, hp230, h⟩ := of_bind h
    refine rb_callV smok C (c_Mod_raise hp230) cw_Mod_176 ⟨Nat.le_of_ble_eq_true rfl, Nat.le_of_ble_eq_true rfl⟩ ⟨rfl, rfl⟩ (q0 := 0) (ci := 4) rfl rfl hI ⟨Nat.zero_le _, Nat.zero_le _⟩ (As := [.int ((σ.2 10) (x5 + x2).toNatClampNeg)]) rfl hl.1 (rest := []) (Nat.le_of_ble_eq_true rfl) rfl d_Mod_plain_230 (fun H locs hI => ?_)
    exact j_Mod_plain_J233 C hr h (lv_sub hl [0, 1, 2, 3] rfl) hI
set_option maxHeartbeats 4000000 in
set_option maxRecDepth 100000 in
theorem j_Mod_plain_J173 {l : Launch} {dC : Nat → ClassId} {dI : Nat → Nat → Nat} {a : Nat → Nat} {cI cZ : ClassId} {pr : Program} {e : Env} {s : State} {m : MethodId} {args : Array Value} {below : List Frame} {meth : Method} {c : Code} {A : Nat → Prop} {ls : Array Slot} {H : Heap} {locs : List Loc} {σ : St} {x1 x2 x4 x5 : Int32} {q : St} (C : Cx (dC, dI) clA (tyM cI cZ) SXm pr s m args meth c b_Mod_plain 7 y_Mod_plain.cls A) (hr : meth.sig.returnType = none) (h : fMod_plain_J173 σ x1 x2 x4 x5 = some q) (hl : lv_has ls 7 [(0, .ref (a 0)), (1, .int x1), (2, .int x2), (4, .int x4), (5, .int x5)]) (hI : Wi (dC, dI) clA (wM a cI cZ σ) s A H locs)  : W pr l e rm_Mod_plain s m args below meth c H locs 0 0 (MQ below (rb_Qv (dC, dI) clA (tyM cI cZ) (wM a cI cZ q) A) args s 0 0 A) (F0 m 173 ls []) := by
  have hx := C.1
  have hb := C.2.1
  unfold fMod_plain_J173 at h
  refine lv_iload_n hx hb d_Mod_plain_173 rfl (lv_at hl 1 rfl) ?_
  refine lv_bipush (v := 11) hx hb d_Mod_plain_174 (by decide) ?_
  refine lv_icmp_ne (tgt := 214) hx hb d_Mod_plain_176 (by decide) (fun hc => ?_) (fun hc => ?_)
  · replace h := of_neg hc h
    exact j_Mod_plain_J214 C hr h (lv_sub hl [0, 1, 2, 4] rfl) hI
  · replace h := of_pos hc h
    refine lv_aload_n hx hb d_Mod_plain_179 rfl (lv_at hl 0 rfl) ?_
    refine lv_iload hx hb d_Mod_plain_180 (lv_at hl 4 rfl) ?_
    refine lv_iload_n hx hb d_Mod_plain_182 rfl (lv_at hl 2 rfl) ?_
    refine lv_iadd hx hb d_Mod_plain_183 ?_
    obtain ⟨p184, hp184, h⟩ := of_bind h
    refine rb_callI smok C (c_Mod_read hp184) cw_Mod_114 ⟨Nat.le_of_ble_eq_true rfl, Nat.le_of_ble_eq_true rfl⟩ ⟨rfl, rfl⟩ (q0 := 0) (ci := 4) rfl rfl hI ⟨Nat.zero_le _, Nat.zero_le _⟩ (As := [.int (x5 + x2)]) rfl hl.1 (rest := []) (Nat.le_of_ble_eq_true rfl) rfl d_Mod_plain_184 (fun H locs hI => ?_)
    refine lv_if_eq (tgt := 214) hx hb d_Mod_plain_187 (by decide) (fun hc => ?_) (fun hc => ?_)
    · replace h := of_pos hc h
      exact j_Mod_plain_J214 C hr h (lv_sub hl [0, 1, 2, 4] rfl) hI
    · replace h := of_neg hc h
      refine lv_aload_n hx hb d_Mod_plain_190 rfl (lv_at hl 0 rfl) ?_
      refine gf_Mod_37 C hI d_Mod_plain_191 ?_
      refine lv_iload hx hb d_Mod_plain_194 (lv_at hl 4 rfl) ?_
      refine lv_iload_n hx hb d_Mod_plain_196 rfl (lv_at hl 2 rfl) ?_
      refine lv_iadd hx hb d_Mod_plain_197 ?_
      obtain ⟨hg198, h⟩ := of_guard h
      refine al_M_9 C hI (f := p184.2.2 9) rfl hg198 d_Mod_plain_198 ?_
      refine lv_iconst (v := (-1)) hx hb d_Mod_plain_199 (by decide) ?_
      refine lv_icmp_ne (tgt := 214) hx hb d_Mod_plain_200 (by decide) (fun hc => ?_) (fun hc => ?_)
      · replace h := of_neg hc h
        exact j_Mod_plain_J214 C hr h (lv_sub hl [0, 1, 2, 4] rfl) hI
      · replace h := of_pos hc h
        refine lv_aload_n hx hb d_Mod_plain_203 rfl (lv_at hl 0 rfl) ?_
        refine gf_Mod_40 C hI d_Mod_plain_204 ?_
        refine lv_iload hx hb d_Mod_plain_207 (lv_at hl 4 rfl) ?_
        refine lv_iconst (v := 3) hx hb d_Mod_plain_209 (by decide) ?_
        refine lv_iadd hx hb d_Mod_plain_210 ?_
        refine lv_iload hx hb d_Mod_plain_211 (lv_at hl 3 rfl) ?_
        obtain ⟨hg213, h⟩ := of_guard h
        refine as_M_10 C hI (σ' := (p184.2.1, va_up p184.2.2 10 (upd (p184.2.2 10) (x5 + 3).toNatClampNeg x4))) rfl hg213 d_Mod_plain_213 (fun H locs hI => ?_)
        exact j_Mod_plain_J214 C hr h (lv_sub hl [0, 1, 2, 4] rfl) hI
set_option maxHeartbeats 4000000 in
set_option maxRecDepth 100000 in
theorem j_Mod_plain_J162 {l : Launch} {dC : Nat → ClassId} {dI : Nat → Nat → Nat} {a : Nat → Nat} {cI cZ : ClassId} {pr : Program} {e : Env} {s : State} {m : MethodId} {args : Array Value} {below : List Frame} {meth : Method} {c : Code} {A : Nat → Prop} {ls : Array Slot} {H : Heap} {locs : List Loc} {σ : St} {x1 x2 x4 x5 : Int32} {q : St} (C : Cx (dC, dI) clA (tyM cI cZ) SXm pr s m args meth c b_Mod_plain 7 y_Mod_plain.cls A) (hr : meth.sig.returnType = none) (h : fMod_plain_J162 σ x1 x2 x4 x5 = some q) (hl : lv_has ls 7 [(0, .ref (a 0)), (1, .int x1), (2, .int x2), (4, .int x4), (5, .int x5)]) (hI : Wi (dC, dI) clA (wM a cI cZ σ) s A H locs)  : W pr l e rm_Mod_plain s m args below meth c H locs 0 0 (MQ below (rb_Qv (dC, dI) clA (tyM cI cZ) (wM a cI cZ q) A) args s 0 0 A) (F0 m 162 ls []) := by
  have hx := C.1
  have hb := C.2.1
  unfold fMod_plain_J162 at h
  refine lv_aload_n hx hb d_Mod_plain_162 rfl (lv_at hl 0 rfl) ?_
  refine gf_Mod_40 C hI d_Mod_plain_163 ?_
  refine lv_iload hx hb d_Mod_plain_166 (lv_at hl 4 rfl) ?_
  refine lv_iconst (v := 3) hx hb d_Mod_plain_168 (by decide) ?_
  refine lv_iadd hx hb d_Mod_plain_169 ?_
  refine lv_iload hx hb d_Mod_plain_170 (lv_at hl 3 rfl) ?_
  obtain ⟨hg172, h⟩ := of_guard h
  refine as_M_10 C hI (σ' := (σ.1, va_up σ.2 10 (upd (σ.2 10) (x5 + 3).toNatClampNeg x4))) rfl hg172 d_Mod_plain_172 (fun H locs hI => ?_)
  exact j_Mod_plain_J173 C hr h (lv_sub hl [0, 1, 2, 3, 4] rfl) hI
set_option maxHeartbeats 4000000 in
set_option maxRecDepth 100000 in
theorem j_Mod_plain_J138 {l : Launch} {dC : Nat → ClassId} {dI : Nat → Nat → Nat} {a : Nat → Nat} {cI cZ : ClassId} {pr : Program} {e : Env} {s : State} {m : MethodId} {args : Array Value} {below : List Frame} {meth : Method} {c : Code} {A : Nat → Prop} {ls : Array Slot} {H : Heap} {locs : List Loc} {σ : St} {x1 x2 x4 x5 : Int32} {q : St} (C : Cx (dC, dI) clA (tyM cI cZ) SXm pr s m args meth c b_Mod_plain 7 y_Mod_plain.cls A) (hr : meth.sig.returnType = none) (h : fMod_plain_J138 σ x1 x2 x4 x5 = some q) (hl : lv_has ls 7 [(0, .ref (a 0)), (1, .int x1), (2, .int x2), (4, .int x4), (5, .int x5)]) (hI : Wi (dC, dI) clA (wM a cI cZ σ) s A H locs)  : W pr l e rm_Mod_plain s m args below meth c H locs 0 0 (MQ below (rb_Qv (dC, dI) clA (tyM cI cZ) (wM a cI cZ q) A) args s 0 0 A) (F0 m 138 ls []) := by
  have hx := C.1
  have hb := C.2.1
  unfold fMod_plain_J138 at h
  refine lv_iload_n hx hb d_Mod_plain_138 rfl (lv_at hl 1 rfl) ?_
  refine lv_bipush (v := 9) hx hb d_Mod_plain_139 (by decide) ?_
  refine lv_icmp_eq (tgt := 162) hx hb d_Mod_plain_141 (by decide) (fun hc => ?_) (fun hc => ?_)
  · replace h := of_pos hc h
    exact j_Mod_plain_J162 C hr h (lv_sub hl [0, 1, 2, 3, 4] rfl) hI
  · replace h := of_neg hc h
    refine lv_iload_n hx hb d_Mod_plain_144 rfl (lv_at hl 1 rfl) ?_
    refine lv_bipush (v := 10) hx hb d_Mod_plain_145 (by decide) ?_
    refine lv_icmp_ne (tgt := 173) hx hb d_Mod_plain_147 (by decide) (fun hc => ?_) (fun hc => ?_)
    · replace h := of_neg hc h
      exact j_Mod_plain_J173 C hr h (lv_sub hl [0, 1, 2, 3, 4] rfl) hI
    · replace h := of_pos hc h
      refine lv_aload_n hx hb d_Mod_plain_150 rfl (lv_at hl 0 rfl) ?_
      refine gf_Mod_40 C hI d_Mod_plain_151 ?_
      refine lv_iload hx hb d_Mod_plain_154 (lv_at hl 4 rfl) ?_
      refine lv_iload_n hx hb d_Mod_plain_156 rfl (lv_at hl 2 rfl) ?_
      refine lv_iadd hx hb d_Mod_plain_157 ?_
      obtain ⟨hg158, h⟩ := of_guard h
      refine al_M_10 C hI (f := σ.2 10) rfl hg158 d_Mod_plain_158 ?_
      refine lv_if_ne (tgt := 173) hx hb d_Mod_plain_159 (by decide) (fun hc => ?_) (fun hc => ?_)
      · replace h := of_neg hc h
        exact j_Mod_plain_J173 C hr h (lv_sub hl [0, 1, 2, 3, 4] rfl) hI
      · replace h := of_pos hc h
        exact j_Mod_plain_J162 C hr h (lv_sub hl [0, 1, 2, 3, 4] rfl) hI
set_option maxHeartbeats 4000000 in
set_option maxRecDepth 100000 in
theorem j_Mod_plain_J123 {l : Launch} {dC : Nat → ClassId} {dI : Nat → Nat → Nat} {a : Nat → Nat} {cI cZ : ClassId} {pr : Program} {e : Env} {s : State} {m : MethodId} {args : Array Value} {below : List Frame} {meth : Method} {c : Code} {A : Nat → Prop} {ls : Array Slot} {H : Heap} {locs : List Loc} {σ : St} {x1 x2 x4 x5 : Int32} {q : St} (C : Cx (dC, dI) clA (tyM cI cZ) SXm pr s m args meth c b_Mod_plain 7 y_Mod_plain.cls A) (hr : meth.sig.returnType = none) (h : fMod_plain_J123 σ x1 x2 x4 x5 = some q) (hl : lv_has ls 7 [(0, .ref (a 0)), (1, .int x1), (2, .int x2), (4, .int x4), (5, .int x5)]) (hI : Wi (dC, dI) clA (wM a cI cZ σ) s A H locs)  : W pr l e rm_Mod_plain s m args below meth c H locs 0 0 (MQ below (rb_Qv (dC, dI) clA (tyM cI cZ) (wM a cI cZ q) A) args s 0 0 A) (F0 m 123 ls []) := by
  have hx := C.1
  have hb := C.2.1
  unfold fMod_plain_J123 at h
  refine lv_iload_n hx hb d_Mod_plain_123 rfl (lv_at hl 1 rfl) ?_
  refine lv_iconst (v := 4) hx hb d_Mod_plain_124 (by decide) ?_
  refine lv_icmp_ne (tgt := 138) hx hb d_Mod_plain_125 (by decide) (fun hc => ?_) (fun hc => ?_)
  · replace h := of_neg hc h
    exact j_Mod_plain_J138 C hr h (lv_sub hl [0, 1, 2, 3, 4] rfl) hI
  · replace h := of_pos hc h
    refine lv_aload_n hx hb d_Mod_plain_128 rfl (lv_at hl 0 rfl) ?_
    refine gf_Mod_37 C hI d_Mod_plain_129 ?_
    refine lv_iload hx hb d_Mod_plain_132 (lv_at hl 4 rfl) ?_
    refine lv_iload_n hx hb d_Mod_plain_134 rfl (lv_at hl 2 rfl) ?_
    refine lv_iadd hx hb d_Mod_plain_135 ?_
    refine lv_iconst (v := (-1)) hx hb d_Mod_plain_136 (by decide) ?_
    obtain ⟨hg137, h⟩ := of_guard h
    refine as_M_9 C hI (σ' := (σ.1, va_up σ.2 9 (upd (σ.2 9) (x5 + x2).toNatClampNeg (-1)))) rfl hg137 d_Mod_plain_137 (fun H locs hI => ?_)
    exact j_Mod_plain_J138 C hr h (lv_sub hl [0, 1, 2, 3, 4] rfl) hI
set_option maxHeartbeats 4000000 in
set_option maxRecDepth 100000 in
theorem j_Mod_plain_J89 {l : Launch} {dC : Nat → ClassId} {dI : Nat → Nat → Nat} {a : Nat → Nat} {cI cZ : ClassId} {pr : Program} {e : Env} {s : State} {m : MethodId} {args : Array Value} {below : List Frame} {meth : Method} {c : Code} {A : Nat → Prop} {ls : Array Slot} {H : Heap} {locs : List Loc} {σ : St} {x1 x2 x3 x4 x5 : Int32} {q : St} (C : Cx (dC, dI) clA (tyM cI cZ) SXm pr s m args meth c b_Mod_plain 7 y_Mod_plain.cls A) (hr : meth.sig.returnType = none) (h : fMod_plain_J89 σ x1 x2 x3 x4 x5 = some q) (hl : lv_has ls 7 [(0, .ref (a 0)), (1, .int x1), (2, .int x2), (3, .int x3), (4, .int x4), (5, .int x5)]) (hI : Wi (dC, dI) clA (wM a cI cZ σ) s A H locs)  : W pr l e rm_Mod_plain s m args below meth c H locs 0 0 (MQ below (rb_Qv (dC, dI) clA (tyM cI cZ) (wM a cI cZ q) A) args s 0 0 A) (F0 m 89 ls []) := by
  have hx := C.1
  have hb := C.2.1
  unfold fMod_plain_J89 at h
  refine lv_iload_n hx hb d_Mod_plain_89 rfl (lv_at hl 1 rfl) ?_
  refine lv_iconst (v := 3) hx hb d_Mod_plain_90 (by decide) ?_
  refine lv_icmp_ne (tgt := 123) hx hb d_Mod_plain_91 (by decide) (fun hc => ?_) (fun hc => ?_)
  · replace h := of_neg hc h
    exact j_Mod_plain_J123 C hr h (lv_sub hl [0, 1, 2, 4, 5] rfl) hI
  · replace h := of_pos hc h
    refine lv_aload_n hx hb d_Mod_plain_94 rfl (lv_at hl 0 rfl) ?_
    refine lv_iload hx hb d_Mod_plain_95 (lv_at hl 5 rfl) ?_
    refine lv_iload_n hx hb d_Mod_plain_97 rfl (lv_at hl 3 rfl) ?_
    refine lv_iadd hx hb d_Mod_plain_98 ?_
    obtain ⟨p99, hp99, h⟩ := of_bind h
    refine rb_callI smok C (c_Mod_read hp99) cw_Mod_114 ⟨Nat.le_of_ble_eq_true rfl, Nat.le_of_ble_eq_true rfl⟩ ⟨rfl, rfl⟩ (q0 := 0) (ci := 4) rfl rfl hI ⟨Nat.zero_le _, Nat.zero_le _⟩ (As := [.int (x5 + x3)]) rfl hl.1 (rest := []) (Nat.le_of_ble_eq_true rfl) rfl d_Mod_plain_99 (fun H locs hI => ?_)
    refine lv_if_eq (tgt := 123) hx hb d_Mod_plain_102 (by decide) (fun hc => ?_) (fun hc => ?_)
    · replace h := of_pos hc h
      exact j_Mod_plain_J123 C hr h (lv_sub hl [0, 1, 2, 4, 5] rfl) hI
    · replace h := of_neg hc h
      refine lv_aload_n hx hb d_Mod_plain_105 rfl (lv_at hl 0 rfl) ?_
      refine gf_Mod_37 C hI d_Mod_plain_106 ?_
      refine lv_iload hx hb d_Mod_plain_109 (lv_at hl 5 rfl) ?_
      refine lv_iload_n hx hb d_Mod_plain_111 rfl (lv_at hl 2 rfl) ?_
      refine lv_iadd hx hb d_Mod_plain_112 ?_
      refine lv_aload_n hx hb d_Mod_plain_113 rfl (lv_at hl 0 rfl) ?_
      refine gf_Mod_37 C hI d_Mod_plain_114 ?_
      refine lv_iload hx hb d_Mod_plain_117 (lv_at hl 5 rfl) ?_
      refine lv_iload_n hx hb d_Mod_plain_119 rfl (lv_at hl 3 rfl) ?_
      refine lv_iadd hx hb d_Mod_plain_120 ?_
      obtain ⟨hg121, h⟩ := of_guard h
      refine al_M_9 C hI (f := p99.2.2 9) rfl hg121 d_Mod_plain_121 ?_
      obtain ⟨hg122, h⟩ := of_guard h
      refine as_M_9 C hI (σ' := (p99.2.1, va_up p99.2.2 9 (upd (p99.2.2 9) (x5 + x2).toNatClampNeg ((p99.2.2 9) (x5 + x3).toNatClampNeg)))) rfl hg122 d_Mod_plain_122 (fun H locs hI => ?_)
      exact j_Mod_plain_J123 C hr h (lv_sub hl [0, 1, 2, 4, 5] rfl) hI
set_option maxHeartbeats 4000000 in
set_option maxRecDepth 100000 in
theorem j_Mod_plain_J57 {l : Launch} {dC : Nat → ClassId} {dI : Nat → Nat → Nat} {a : Nat → Nat} {cI cZ : ClassId} {pr : Program} {e : Env} {s : State} {m : MethodId} {args : Array Value} {below : List Frame} {meth : Method} {c : Code} {A : Nat → Prop} {ls : Array Slot} {H : Heap} {locs : List Loc} {σ : St} {x1 x2 x3 x4 x5 : Int32} {q : St} (C : Cx (dC, dI) clA (tyM cI cZ) SXm pr s m args meth c b_Mod_plain 7 y_Mod_plain.cls A) (hr : meth.sig.returnType = none) (h : fMod_plain_J57 σ x1 x2 x3 x4 x5 = some q) (hl : lv_has ls 7 [(0, .ref (a 0)), (1, .int x1), (2, .int x2), (3, .int x3), (4, .int x4), (5, .int x5)]) (hI : Wi (dC, dI) clA (wM a cI cZ σ) s A H locs)  : W pr l e rm_Mod_plain s m args below meth c H locs 0 0 (MQ below (rb_Qv (dC, dI) clA (tyM cI cZ) (wM a cI cZ q) A) args s 0 0 A) (F0 m 57 ls []) := by
  have hx := C.1
  have hb := C.2.1
  unfold fMod_plain_J57 at h
  refine lv_iload_n hx hb d_Mod_plain_57 rfl (lv_at hl 1 rfl) ?_
  refine lv_iconst (v := 2) hx hb d_Mod_plain_58 (by decide) ?_
  refine lv_icmp_ne (tgt := 89) hx hb d_Mod_plain_59 (by decide) (fun hc => ?_) (fun hc => ?_)
  · replace h := of_neg hc h
    exact j_Mod_plain_J89 C hr h (lv_sub hl [0, 1, 2, 3, 4, 5] rfl) hI
  · replace h := of_pos hc h
    refine lv_aload_n hx hb d_Mod_plain_62 rfl (lv_at hl 0 rfl) ?_
    refine lv_iload hx hb d_Mod_plain_63 (lv_at hl 4 rfl) ?_
    refine lv_iconst (v := 0) hx hb d_Mod_plain_65 (by decide) ?_
    obtain ⟨p66, hp66, h⟩ := of_bind h
    refine rb_callI smok C (c_Mod_make hp66) cw_Mod_173 ⟨Nat.le_of_ble_eq_true rfl, Nat.le_of_ble_eq_true rfl⟩ ⟨rfl, rfl⟩ (q0 := 0) (ci := 4) rfl rfl hI ⟨Nat.zero_le _, Nat.zero_le _⟩ (As := [.int x4, .int 0]) rfl hl.1 (rest := []) (Nat.le_of_ble_eq_true rfl) rfl d_Mod_plain_66 (fun H locs hI => ?_)
    refine lv_istore (lv' := [(6, .int p66.1), (0, .ref (a 0)), (1, .int x1), (2, .int x2), (3, .int x3), (4, .int x4), (5, .int x5)]) hx hb d_Mod_plain_69 hl (by decide) rfl (fun ls hl => ?_)
    refine lv_aload_n hx hb d_Mod_plain_71 rfl (lv_at hl 1 rfl) ?_
    refine gf_Mod_53 C hI (v := p66.2.1 12) rfl d_Mod_plain_72 ?_
    refine lv_if_ne (tgt := 89) hx hb d_Mod_plain_75 (by decide) (fun hc => ?_) (fun hc => ?_)
    · replace h := of_neg hc h
      exact j_Mod_plain_J89 C hr h (lv_sub hl [1, 2, 3, 4, 5, 6] rfl) hI
    · replace h := of_pos hc h
      refine lv_aload_n hx hb d_Mod_plain_78 rfl (lv_at hl 1 rfl) ?_
      refine gf_Mod_37 C hI d_Mod_plain_79 ?_
      refine lv_iload hx hb d_Mod_plain_82 (lv_at hl 6 rfl) ?_
      refine lv_iload_n hx hb d_Mod_plain_84 rfl (lv_at hl 3 rfl) ?_
      refine lv_iadd hx hb d_Mod_plain_85 ?_
      refine lv_iload hx hb d_Mod_plain_86 (lv_at hl 0 rfl) ?_
      obtain ⟨hg88, h⟩ := of_guard h
      refine as_M_9 C hI (σ' := (p66.2.1, va_up p66.2.2 9 (upd (p66.2.2 9) (x5 + x2).toNatClampNeg p66.1))) rfl hg88 d_Mod_plain_88 (fun H locs hI => ?_)
      exact j_Mod_plain_J89 C hr h (lv_sub hl [1, 2, 3, 4, 5, 6] rfl) hI
set_option maxHeartbeats 4000000 in
set_option maxRecDepth 100000 in
theorem j_Mod_plain_J23 {l : Launch} {dC : Nat → ClassId} {dI : Nat → Nat → Nat} {a : Nat → Nat} {cI cZ : ClassId} {pr : Program} {e : Env} {s : State} {m : MethodId} {args : Array Value} {below : List Frame} {meth : Method} {c : Code} {A : Nat → Prop} {ls : Array Slot} {H : Heap} {locs : List Loc} {σ : St} {x1 x2 x3 x4 x5 : Int32} {q : St} (C : Cx (dC, dI) clA (tyM cI cZ) SXm pr s m args meth c b_Mod_plain 7 y_Mod_plain.cls A) (hr : meth.sig.returnType = none) (h : fMod_plain_J23 σ x1 x2 x3 x4 x5 = some q) (hl : lv_has ls 7 [(0, .ref (a 0)), (1, .int x1), (2, .int x2), (3, .int x3), (4, .int x4), (5, .int x5)]) (hI : Wi (dC, dI) clA (wM a cI cZ σ) s A H locs)  : W pr l e rm_Mod_plain s m args below meth c H locs 0 0 (MQ below (rb_Qv (dC, dI) clA (tyM cI cZ) (wM a cI cZ q) A) args s 0 0 A) (F0 m 23 ls []) := by
  have hx := C.1
  have hb := C.2.1
  unfold fMod_plain_J23 at h
  refine lv_iload_n hx hb d_Mod_plain_23 rfl (lv_at hl 1 rfl) ?_
  refine lv_iconst (v := 1) hx hb d_Mod_plain_24 (by decide) ?_
  refine lv_icmp_ne (tgt := 57) hx hb d_Mod_plain_25 (by decide) (fun hc => ?_) (fun hc => ?_)
  · replace h := of_neg hc h
    exact j_Mod_plain_J57 C hr h (lv_sub hl [0, 1, 2, 3, 4, 5] rfl) hI
  · replace h := of_pos hc h
    refine lv_aload_n hx hb d_Mod_plain_28 rfl (lv_at hl 0 rfl) ?_
    refine gf_Mod_40 C hI d_Mod_plain_29 ?_
    refine lv_iload hx hb d_Mod_plain_32 (lv_at hl 5 rfl) ?_
    refine lv_iload_n hx hb d_Mod_plain_34 rfl (lv_at hl 2 rfl) ?_
    refine lv_iadd hx hb d_Mod_plain_35 ?_
    refine lv_aload_n hx hb d_Mod_plain_36 rfl (lv_at hl 0 rfl) ?_
    refine gf_Mod_40 C hI d_Mod_plain_37 ?_
    refine lv_iload hx hb d_Mod_plain_40 (lv_at hl 5 rfl) ?_
    refine lv_iload_n hx hb d_Mod_plain_42 rfl (lv_at hl 3 rfl) ?_
    refine lv_iadd hx hb d_Mod_plain_43 ?_
    obtain ⟨hg44, h⟩ := of_guard h
    refine al_M_10 C hI (f := σ.2 10) rfl hg44 d_Mod_plain_44 ?_
    refine lv_aload_n hx hb d_Mod_plain_45 rfl (lv_at hl 0 rfl) ?_
    refine gf_Mod_40 C hI d_Mod_plain_46 ?_
    refine lv_iload hx hb d_Mod_plain_49 (lv_at hl 5 rfl) ?_
    refine lv_iload hx hb d_Mod_plain_51 (lv_at hl 4 rfl) ?_
    refine lv_iadd hx hb d_Mod_plain_53 ?_
    obtain ⟨hg54, h⟩ := of_guard h
    refine al_M_10 C hI (f := σ.2 10) rfl hg54 d_Mod_plain_54 ?_
    refine lv_iadd hx hb d_Mod_plain_55 ?_
    obtain ⟨hg56, h⟩ := of_guard h
    refine as_M_10 C hI (σ' := (σ.1, va_up σ.2 10 (upd (σ.2 10) (x5 + x2).toNatClampNeg (((σ.2 10) (x5 + x3).toNatClampNeg) + ((σ.2 10) (x5 + x4).toNatClampNeg))))) rfl hg56 d_Mod_plain_56 (fun H locs hI => ?_)
    exact j_Mod_plain_J57 C hr h (lv_sub hl [0, 1, 2, 3, 4, 5] rfl) hI
set_option maxHeartbeats 4000000 in
set_option maxRecDepth 100000 in
theorem c_Mod_plain {l : Launch} {dC : Nat → ClassId} {dI : Nat → Nat → Nat} {a : Nat → Nat} {cI cZ : ClassId} {σ : St} {x1 x2 x3 x4 : Int32} {q : St} (h : fMod_plain σ x1 x2 x3 x4 = some q) : CV l (dC, dI) clA (tyM cI cZ) SXm (wM a cI cZ σ) (wM a cI cZ q) y_Mod_plain b_Mod_plain 7 none rm_Mod_plain [.ref (a 0), .int x1, .int x2, .int x3, .int x4] := by
  refine CV_of (by decide) (Nat.le_of_ble_eq_true rfl) ?_
  intro pr e s m below meth c A ls C hr hl hI
  have hx := C.1
  have hb := C.2.1
  have hl : lv_has ls 7 [(0, .ref (a 0)), (1, .int x1), (2, .int x2), (3, .int x3), (4, .int x4)] := hl
  unfold fMod_plain at h
  refine lv_iconst (v := 4) hx hb d_Mod_plain_0 (by decide) ?_
  refine lv_aload_n hx hb d_Mod_plain_1 rfl (lv_at hl 0 rfl) ?_
  refine gf_Mod_120 C hI (v := σ.1 9) rfl d_Mod_plain_2 ?_
  refine lv_imul hx hb d_Mod_plain_5 ?_
  refine lv_istore (lv' := [(5, .int ((4 : Int32) * (σ.1 9))), (0, .ref (a 0)), (1, .int x1), (2, .int x2), (3, .int x3), (4, .int x4)]) hx hb d_Mod_plain_6 hl (by decide) rfl (fun ls hl => ?_)
  refine lv_iload_n hx hb d_Mod_plain_8 rfl (lv_at hl 2 rfl) ?_
  refine lv_if_ne (tgt := 23) hx hb d_Mod_plain_9 (by decide) (fun hc => ?_) (fun hc => ?_)
  · replace h := of_neg hc h
    exact j_Mod_plain_J23 C hr h (lv_sub hl [1, 2, 3, 4, 5, 0] rfl) hI
  · replace h := of_pos hc h
    refine lv_aload_n hx hb d_Mod_plain_12 rfl (lv_at hl 1 rfl) ?_
    refine gf_Mod_40 C hI d_Mod_plain_13 ?_
    refine lv_iload hx hb d_Mod_plain_16 (lv_at hl 0 rfl) ?_
    refine lv_iload_n hx hb d_Mod_plain_18 rfl (lv_at hl 3 rfl) ?_
    refine lv_iadd hx hb d_Mod_plain_19 ?_
    refine lv_iload hx hb d_Mod_plain_20 (lv_at hl 5 rfl) ?_
    obtain ⟨hg22, h⟩ := of_guard h
    refine as_M_10 C hI (σ' := (σ.1, va_up σ.2 10 (upd (σ.2 10) (((4 : Int32) * (σ.1 9)) + x2).toNatClampNeg x4))) rfl hg22 d_Mod_plain_22 (fun H locs hI => ?_)
    exact j_Mod_plain_J23 C hr h (lv_sub hl [1, 2, 3, 4, 5, 0] rfl) hI
theorem d_Mod_access_0 : decode b_Mod_access 0 = .ok (.iconst 4, 1) := by decide +kernel
theorem d_Mod_access_1 : decode b_Mod_access 1 = .ok (.aload_n 0, 1) := by decide +kernel
theorem d_Mod_access_2 : decode b_Mod_access 2 = .ok (.getfield 120, 3) := by decide +kernel
theorem d_Mod_access_5 : decode b_Mod_access 5 = .ok (.imul, 1) := by decide +kernel
theorem d_Mod_access_6 : decode b_Mod_access 6 = .ok (.istore 5, 2) := by decide +kernel
theorem d_Mod_access_8 : decode b_Mod_access 8 = .ok (.iload_n 1, 1) := by decide +kernel
theorem d_Mod_access_9 : decode b_Mod_access 9 = .ok (.iconst 5, 1) := by decide +kernel
theorem d_Mod_access_10 : decode b_Mod_access 10 = .ok (.if_icmp .eq 9, 3) := by decide +kernel
theorem d_Mod_access_13 : decode b_Mod_access 13 = .ok (.iload_n 1, 1) := by decide +kernel
theorem d_Mod_access_14 : decode b_Mod_access 14 = .ok (.bipush 7, 2) := by decide +kernel
theorem d_Mod_access_16 : decode b_Mod_access 16 = .ok (.if_icmp .ne 10, 3) := by decide +kernel
theorem d_Mod_access_19 : decode b_Mod_access 19 = .ok (.iload 5, 2) := by decide +kernel
theorem d_Mod_access_21 : decode b_Mod_access 21 = .ok (.iload_n 3, 1) := by decide +kernel
theorem d_Mod_access_22 : decode b_Mod_access 22 = .ok (.iadd, 1) := by decide +kernel
theorem d_Mod_access_23 : decode b_Mod_access 23 = .ok (.goto 7, 3) := by decide +kernel
theorem d_Mod_access_26 : decode b_Mod_access 26 = .ok (.iload 5, 2) := by decide +kernel
theorem d_Mod_access_28 : decode b_Mod_access 28 = .ok (.iload_n 2, 1) := by decide +kernel
theorem d_Mod_access_29 : decode b_Mod_access 29 = .ok (.iadd, 1) := by decide +kernel
theorem d_Mod_access_30 : decode b_Mod_access 30 = .ok (.istore 6, 2) := by decide +kernel
theorem d_Mod_access_32 : decode b_Mod_access 32 = .ok (.aload_n 0, 1) := by decide +kernel
theorem d_Mod_access_33 : decode b_Mod_access 33 = .ok (.iload 6, 2) := by decide +kernel
theorem d_Mod_access_35 : decode b_Mod_access 35 = .ok (.invokevirtual 114, 3) := by decide +kernel
theorem d_Mod_access_38 : decode b_Mod_access 38 = .ok (.ifCond .ne 4, 3) := by decide +kernel
theorem d_Mod_access_41 : decode b_Mod_access 41 = .ok (.return_, 1) := by decide +kernel
theorem d_Mod_access_42 : decode b_Mod_access 42 = .ok (.aload_n 0, 1) := by decide +kernel
theorem d_Mod_access_43 : decode b_Mod_access 43 = .ok (.getfield 37, 3) := by decide +kernel
theorem d_Mod_access_46 : decode b_Mod_access 46 = .ok (.iload 6, 2) := by decide +kernel
theorem d_Mod_access_48 : decode b_Mod_access 48 = .ok (.iaload, 1) := by decide +kernel
theorem d_Mod_access_49 : decode b_Mod_access 49 = .ok (.istore 7, 2) := by decide +kernel
theorem d_Mod_access_51 : decode b_Mod_access 51 = .ok (.iload 7, 2) := by decide +kernel
theorem d_Mod_access_53 : decode b_Mod_access 53 = .ok (.iconst (-1), 1) := by decide +kernel
theorem d_Mod_access_54 : decode b_Mod_access 54 = .ok (.if_icmp .ne 9, 3) := by decide +kernel
theorem d_Mod_access_57 : decode b_Mod_access 57 = .ok (.aload_n 0, 1) := by decide +kernel
theorem d_Mod_access_58 : decode b_Mod_access 58 = .ok (.iconst 1, 1) := by decide +kernel
theorem d_Mod_access_59 : decode b_Mod_access 59 = .ok (.invokevirtual 176, 3) := by decide +kernel
theorem d_Mod_access_62 : decode b_Mod_access 62 = .ok (.return_, 1) := by decide +kernel
theorem d_Mod_access_63 : decode b_Mod_access 63 = .ok (.iload_n 1, 1) := by decide +kernel
theorem d_Mod_access_64 : decode b_Mod_access 64 = .ok (.bipush 6, 2) := by decide +kernel
theorem d_Mod_access_66 : decode b_Mod_access 66 = .ok (.if_icmp .gt 18, 3) := by decide +kernel
theorem d_Mod_access_69 : decode b_Mod_access 69 = .ok (.aload_n 0, 1) := by decide +kernel
theorem d_Mod_access_70 : decode b_Mod_access 70 = .ok (.getfield 7, 3) := by decide +kernel
theorem d_Mod_access_73 : decode b_Mod_access 73 = .ok (.aload_n 0, 1) := by decide +kernel
theorem d_Mod_access_74 : decode b_Mod_access 74 = .ok (.getfield 31, 3) := by decide +kernel
theorem d_Mod_access_77 : decode b_Mod_access 77 = .ok (.iload 7, 2) := by decide +kernel
theorem d_Mod_access_79 : decode b_Mod_access 79 = .ok (.iaload, 1) := by decide +kernel
theorem d_Mod_access_80 : decode b_Mod_access 80 = .ok (.iaload, 1) := by decide +kernel
theorem d_Mod_access_81 : decode b_Mod_access 81 = .ok (.goto 15, 3) := by decide +kernel
theorem d_Mod_access_84 : decode b_Mod_access 84 = .ok (.aload_n 0, 1) := by decide +kernel
theorem d_Mod_access_85 : decode b_Mod_access 85 = .ok (.getfield 13, 3) := by decide +kernel
theorem d_Mod_access_88 : decode b_Mod_access 88 = .ok (.aload_n 0, 1) := by decide +kernel
theorem d_Mod_access_89 : decode b_Mod_access 89 = .ok (.getfield 31, 3) := by decide +kernel
theorem d_Mod_access_92 : decode b_Mod_access 92 = .ok (.iload 7, 2) := by decide +kernel
theorem d_Mod_access_94 : decode b_Mod_access 94 = .ok (.iaload, 1) := by decide +kernel
theorem d_Mod_access_95 : decode b_Mod_access 95 = .ok (.iaload, 1) := by decide +kernel
theorem d_Mod_access_96 : decode b_Mod_access 96 = .ok (.istore 8, 2) := by decide +kernel
theorem d_Mod_access_98 : decode b_Mod_access 98 = .ok (.iload 4, 2) := by decide +kernel
theorem d_Mod_access_100 : decode b_Mod_access 100 = .ok (.iload 8, 2) := by decide +kernel
theorem d_Mod_access_102 : decode b_Mod_access 102 = .ok (.if_icmp .lt 11, 3) := by decide +kernel
theorem d_Mod_access_105 : decode b_Mod_access 105 = .ok (.aload_n 0, 1) := by decide +kernel
theorem d_Mod_access_106 : decode b_Mod_access 106 = .ok (.iconst 2, 1) := by decide +kernel
theorem d_Mod_access_107 : decode b_Mod_access 107 = .ok (.invokevirtual 176, 3) := by decide +kernel
theorem d_Mod_access_110 : decode b_Mod_access 110 = .ok (.goto 138, 3) := by decide +kernel
theorem d_Mod_access_113 : decode b_Mod_access 113 = .ok (.iload_n 1, 1) := by decide +kernel
theorem d_Mod_access_114 : decode b_Mod_access 114 = .ok (.iconst 5, 1) := by decide +kernel
theorem d_Mod_access_115 : decode b_Mod_access 115 = .ok (.if_icmp .ne 41, 3) := by decide +kernel
theorem d_Mod_access_118 : decode b_Mod_access 118 = .ok (.aload_n 0, 1) := by decide +kernel
theorem d_Mod_access_119 : decode b_Mod_access 119 = .ok (.iconst 4, 1) := by decide +kernel
theorem d_Mod_access_120 : decode b_Mod_access 120 = .ok (.iload 7, 2) := by decide +kernel
theorem d_Mod_access_122 : decode b_Mod_access 122 = .ok (.imul, 1) := by decide +kernel
theorem d_Mod_access_123 : decode b_Mod_access 123 = .ok (.iload 4, 2) := by decide +kernel
theorem d_Mod_access_125 : decode b_Mod_access 125 = .ok (.iadd, 1) := by decide +kernel
theorem d_Mod_access_126 : decode b_Mod_access 126 = .ok (.invokevirtual 114, 3) := by decide +kernel
theorem d_Mod_access_129 : decode b_Mod_access 129 = .ok (.ifCond .eq 119, 3) := by decide +kernel
theorem d_Mod_access_132 : decode b_Mod_access 132 = .ok (.aload_n 0, 1) := by decide +kernel
theorem d_Mod_access_133 : decode b_Mod_access 133 = .ok (.getfield 37, 3) := by decide +kernel
theorem d_Mod_access_136 : decode b_Mod_access 136 = .ok (.iload 5, 2) := by decide +kernel
theorem d_Mod_access_138 : decode b_Mod_access 138 = .ok (.iload_n 2, 1) := by decide +kernel
theorem d_Mod_access_139 : decode b_Mod_access 139 = .ok (.iadd, 1) := by decide +kernel
theorem d_Mod_access_140 : decode b_Mod_access 140 = .ok (.aload_n 0, 1) := by decide +kernel
theorem d_Mod_access_141 : decode b_Mod_access 141 = .ok (.getfield 37, 3) := by decide +kernel
theorem d_Mod_access_144 : decode b_Mod_access 144 = .ok (.iconst 4, 1) := by decide +kernel
theorem d_Mod_access_145 : decode b_Mod_access 145 = .ok (.iload 7, 2) := by decide +kernel
theorem d_Mod_access_147 : decode b_Mod_access 147 = .ok (.imul, 1) := by decide +kernel
theorem d_Mod_access_148 : decode b_Mod_access 148 = .ok (.iload 4, 2) := by decide +kernel
theorem d_Mod_access_150 : decode b_Mod_access 150 = .ok (.iadd, 1) := by decide +kernel
theorem d_Mod_access_151 : decode b_Mod_access 151 = .ok (.iaload, 1) := by decide +kernel
theorem d_Mod_access_152 : decode b_Mod_access 152 = .ok (.iastore, 1) := by decide +kernel
theorem d_Mod_access_153 : decode b_Mod_access 153 = .ok (.goto 95, 3) := by decide +kernel
theorem d_Mod_access_156 : decode b_Mod_access 156 = .ok (.iload_n 1, 1) := by decide +kernel
theorem d_Mod_access_157 : decode b_Mod_access 157 = .ok (.bipush 6, 2) := by decide +kernel
theorem d_Mod_access_159 : decode b_Mod_access 159 = .ok (.if_icmp .ne 38, 3) := by decide +kernel
theorem d_Mod_access_162 : decode b_Mod_access 162 = .ok (.aload_n 0, 1) := by decide +kernel
theorem d_Mod_access_163 : decode b_Mod_access 163 = .ok (.iload 5, 2) := by decide +kernel
theorem d_Mod_access_165 : decode b_Mod_access 165 = .ok (.iload_n 3, 1) := by decide +kernel
theorem d_Mod_access_166 : decode b_Mod_access 166 = .ok (.iadd, 1) := by decide +kernel
theorem d_Mod_access_167 : decode b_Mod_access 167 = .ok (.invokevirtual 114, 3) := by decide +kernel
theorem d_Mod_access_170 : decode b_Mod_access 170 = .ok (.ifCond .eq 78, 3) := by decide +kernel
theorem d_Mod_access_173 : decode b_Mod_access 173 = .ok (.aload_n 0, 1) := by decide +kernel
theorem d_Mod_access_174 : decode b_Mod_access 174 = .ok (.getfield 37, 3) := by decide +kernel
theorem d_Mod_access_177 : decode b_Mod_access 177 = .ok (.iconst 4, 1) := by decide +kernel
theorem d_Mod_access_178 : decode b_Mod_access 178 = .ok (.iload 7, 2) := by decide +kernel
theorem d_Mod_access_180 : decode b_Mod_access 180 = .ok (.imul, 1) := by decide +kernel
theorem d_Mod_access_181 : decode b_Mod_access 181 = .ok (.iload 4, 2) := by decide +kernel
theorem d_Mod_access_183 : decode b_Mod_access 183 = .ok (.iadd, 1) := by decide +kernel
theorem d_Mod_access_184 : decode b_Mod_access 184 = .ok (.aload_n 0, 1) := by decide +kernel
theorem d_Mod_access_185 : decode b_Mod_access 185 = .ok (.getfield 37, 3) := by decide +kernel
theorem d_Mod_access_188 : decode b_Mod_access 188 = .ok (.iload 5, 2) := by decide +kernel
theorem d_Mod_access_190 : decode b_Mod_access 190 = .ok (.iload_n 3, 1) := by decide +kernel
theorem d_Mod_access_191 : decode b_Mod_access 191 = .ok (.iadd, 1) := by decide +kernel
theorem d_Mod_access_192 : decode b_Mod_access 192 = .ok (.iaload, 1) := by decide +kernel
theorem d_Mod_access_193 : decode b_Mod_access 193 = .ok (.iastore, 1) := by decide +kernel
theorem d_Mod_access_194 : decode b_Mod_access 194 = .ok (.goto 54, 3) := by decide +kernel
theorem d_Mod_access_197 : decode b_Mod_access 197 = .ok (.iload_n 1, 1) := by decide +kernel
theorem d_Mod_access_198 : decode b_Mod_access 198 = .ok (.bipush 7, 2) := by decide +kernel
theorem d_Mod_access_200 : decode b_Mod_access 200 = .ok (.if_icmp .ne 27, 3) := by decide +kernel
theorem d_Mod_access_203 : decode b_Mod_access 203 = .ok (.aload_n 0, 1) := by decide +kernel
theorem d_Mod_access_204 : decode b_Mod_access 204 = .ok (.getfield 40, 3) := by decide +kernel
theorem d_Mod_access_207 : decode b_Mod_access 207 = .ok (.iload 5, 2) := by decide +kernel
theorem d_Mod_access_209 : decode b_Mod_access 209 = .ok (.iload_n 2, 1) := by decide +kernel
theorem d_Mod_access_210 : decode b_Mod_access 210 = .ok (.iadd, 1) := by decide +kernel
theorem d_Mod_access_211 : decode b_Mod_access 211 = .ok (.aload_n 0, 1) := by decide +kernel
theorem d_Mod_access_212 : decode b_Mod_access 212 = .ok (.getfield 40, 3) := by decide +kernel
theorem d_Mod_access_215 : decode b_Mod_access 215 = .ok (.iconst 4, 1) := by decide +kernel
theorem d_Mod_access_216 : decode b_Mod_access 216 = .ok (.iload 7, 2) := by decide +kernel
theorem d_Mod_access_218 : decode b_Mod_access 218 = .ok (.imul, 1) := by decide +kernel
theorem d_Mod_access_219 : decode b_Mod_access 219 = .ok (.iload 4, 2) := by decide +kernel
theorem d_Mod_access_221 : decode b_Mod_access 221 = .ok (.iadd, 1) := by decide +kernel
theorem d_Mod_access_222 : decode b_Mod_access 222 = .ok (.iaload, 1) := by decide +kernel
theorem d_Mod_access_223 : decode b_Mod_access 223 = .ok (.iastore, 1) := by decide +kernel
theorem d_Mod_access_224 : decode b_Mod_access 224 = .ok (.goto 24, 3) := by decide +kernel
theorem d_Mod_access_227 : decode b_Mod_access 227 = .ok (.aload_n 0, 1) := by decide +kernel
theorem d_Mod_access_228 : decode b_Mod_access 228 = .ok (.getfield 40, 3) := by decide +kernel
theorem d_Mod_access_231 : decode b_Mod_access 231 = .ok (.iconst 4, 1) := by decide +kernel
theorem d_Mod_access_232 : decode b_Mod_access 232 = .ok (.iload 7, 2) := by decide +kernel
theorem d_Mod_access_234 : decode b_Mod_access 234 = .ok (.imul, 1) := by decide +kernel
theorem d_Mod_access_235 : decode b_Mod_access 235 = .ok (.iload 4, 2) := by decide +kernel
theorem d_Mod_access_237 : decode b_Mod_access 237 = .ok (.iadd, 1) := by decide +kernel
theorem d_Mod_access_238 : decode b_Mod_access 238 = .ok (.aload_n 0, 1) := by decide +kernel
theorem d_Mod_access_239 : decode b_Mod_access 239 = .ok (.getfield 40, 3) := by decide +kernel
theorem d_Mod_access_242 : decode b_Mod_access 242 = .ok (.iload 5, 2) := by decide +kernel
theorem d_Mod_access_244 : decode b_Mod_access 244 = .ok (.iload_n 3, 1) := by decide +kernel
theorem d_Mod_access_245 : decode b_Mod_access 245 = .ok (.iadd, 1) := by decide +kernel
theorem d_Mod_access_246 : decode b_Mod_access 246 = .ok (.iaload, 1) := by decide +kernel
theorem d_Mod_access_247 : decode b_Mod_access 247 = .ok (.iastore, 1) := by decide +kernel
theorem d_Mod_access_248 : decode b_Mod_access 248 = .ok (.return_, 1) := by decide +kernel
abbrev rm_Mod_access : Room := { frames := 3, cells := 0, slots := 0, locals := 63 }
set_option maxHeartbeats 4000000 in
set_option maxRecDepth 100000 in
theorem j_Mod_access_J96 {l : Launch} {dC : Nat → ClassId} {dI : Nat → Nat → Nat} {a : Nat → Nat} {cI cZ : ClassId} {pr : Program} {e : Env} {s : State} {m : MethodId} {args : Array Value} {below : List Frame} {meth : Method} {c : Code} {A : Nat → Prop} {ls : Array Slot} {H : Heap} {locs : List Loc} {σ : St} {x1 x2 x3 x4 x5 x7 s0 : Int32} {q : St} (C : Cx (dC, dI) clA (tyM cI cZ) SXm pr s m args meth c b_Mod_access 9 y_Mod_access.cls A) (hr : meth.sig.returnType = none) (h : fMod_access_J96 σ x1 x2 x3 x4 x5 x7 s0 = some q) (hl : lv_has ls 9 [(0, .ref (a 0)), (1, .int x1), (2, .int x2), (3, .int x3), (4, .int x4), (5, .int x5), (7, .int x7)]) (hI : Wi (dC, dI) clA (wM a cI cZ σ) s A H locs)  : W pr l e rm_Mod_access s m args below meth c H locs 0 0 (MQ below (rb_Qv (dC, dI) clA (tyM cI cZ) (wM a cI cZ q) A) args s 0 0 A) (F0 m 96 ls [.int s0]) := by
  have hx := C.1
  have hb := C.2.1
  unfold fMod_access_J96 at h
  refine lv_istore (lv' := [(8, .int s0), (0, .ref (a 0)), (1, .int x1), (2, .int x2), (3, .int x3), (4, .int x4), (5, .int x5), (7, .int x7)]) hx hb d_Mod_access_96 hl (by decide) rfl (fun ls hl => ?_)
  refine lv_iload hx hb d_Mod_access_98 (lv_at hl 5 rfl) ?_
  refine lv_iload hx hb d_Mod_access_100 (lv_at hl 0 rfl) ?_
  refine lv_icmp_lt (tgt := 113) hx hb d_Mod_access_102 (by decide) (fun hc => ?_) (fun hc => ?_)
  · replace h := of_pos hc h
    refine lv_iload_n hx hb d_Mod_access_113 rfl (lv_at hl 2 rfl) ?_
    refine lv_iconst (v := 5) hx hb d_Mod_access_114 (by decide) ?_
    refine lv_icmp_ne (tgt := 156) hx hb d_Mod_access_115 (by decide) (fun hc => ?_) (fun hc => ?_)
    · replace h := of_neg hc h
      refine lv_iload_n hx hb d_Mod_access_156 rfl (lv_at hl 2 rfl) ?_
      refine lv_bipush (v := 6) hx hb d_Mod_access_157 (by decide) ?_
      refine lv_icmp_ne (tgt := 197) hx hb d_Mod_access_159 (by decide) (fun hc => ?_) (fun hc => ?_)
      · replace h := of_neg hc h
        refine lv_iload_n hx hb d_Mod_access_197 rfl (lv_at hl 2 rfl) ?_
        refine lv_bipush (v := 7) hx hb d_Mod_access_198 (by decide) ?_
        refine lv_icmp_ne (tgt := 227) hx hb d_Mod_access_200 (by decide) (fun hc => ?_) (fun hc => ?_)
        · replace h := of_neg hc h
          refine lv_aload_n hx hb d_Mod_access_227 rfl (lv_at hl 1 rfl) ?_
          refine gf_Mod_40 C hI d_Mod_access_228 ?_
          refine lv_iconst (v := 4) hx hb d_Mod_access_231 (by decide) ?_
          refine lv_iload hx hb d_Mod_access_232 (lv_at hl 7 rfl) ?_
          refine lv_imul hx hb d_Mod_access_234 ?_
          refine lv_iload hx hb d_Mod_access_235 (lv_at hl 5 rfl) ?_
          refine lv_iadd hx hb d_Mod_access_237 ?_
          refine lv_aload_n hx hb d_Mod_access_238 rfl (lv_at hl 1 rfl) ?_
          refine gf_Mod_40 C hI d_Mod_access_239 ?_
          refine lv_iload hx hb d_Mod_access_242 (lv_at hl 6 rfl) ?_
          refine lv_iload_n hx hb d_Mod_access_244 rfl (lv_at hl 4 rfl) ?_
          refine lv_iadd hx hb d_Mod_access_245 ?_
          obtain ⟨hg246, h⟩ := of_guard h
          refine al_M_10 C hI (f := σ.2 10) rfl hg246 d_Mod_access_246 ?_
          obtain ⟨hg247, h⟩ := of_guard h
          refine as_M_10 C hI (σ' := (σ.1, va_up σ.2 10 (upd (σ.2 10) (((4 : Int32) * x7) + x4).toNatClampNeg ((σ.2 10) (x5 + x3).toNatClampNeg)))) rfl hg247 d_Mod_access_247 (fun H locs hI => ?_)
          replace h := Option.some.inj h
          subst h
          exact rb_retV C hr hI d_Mod_access_248
        · replace h := of_pos hc h
          refine lv_aload_n hx hb d_Mod_access_203 rfl (lv_at hl 1 rfl) ?_
          refine gf_Mod_40 C hI d_Mod_access_204 ?_
          refine lv_iload hx hb d_Mod_access_207 (lv_at hl 6 rfl) ?_
          refine lv_iload_n hx hb d_Mod_access_209 rfl (lv_at hl 3 rfl) ?_
          refine lv_iadd hx hb d_Mod_access_210 ?_
          refine lv_aload_n hx hb d_Mod_access_211 rfl (lv_at hl 1 rfl) ?_
          refine gf_Mod_40 C hI d_Mod_access_212 ?_
          refine lv_iconst (v := 4) hx hb d_Mod_access_215 (by decide) ?_
          refine lv_iload hx hb d_Mod_access_216 (lv_at hl 7 rfl) ?_
          refine lv_imul hx hb d_Mod_access_218 ?_
          refine lv_iload hx hb d_Mod_access_219 (lv_at hl 5 rfl) ?_
          refine lv_iadd hx hb d_Mod_access_221 ?_
          obtain ⟨hg222, h⟩ := of_guard h
          refine al_M_10 C hI (f := σ.2 10) rfl hg222 d_Mod_access_222 ?_
          obtain ⟨hg223, h⟩ := of_guard h
          refine as_M_10 C hI (σ' := (σ.1, va_up σ.2 10 (upd (σ.2 10) (x5 + x2).toNatClampNeg ((σ.2 10) (((4 : Int32) * x7) + x4).toNatClampNeg)))) rfl hg223 d_Mod_access_223 (fun H locs hI => ?_)
          refine lv_goto (tgt := 248) hx hb d_Mod_access_224 (by decide) ?_
          replace h := Option.some.inj h
          subst h
          exact rb_retV C hr hI d_Mod_access_248
      · replace h := of_pos hc h
        refine lv_aload_n hx hb d_Mod_access_162 rfl (lv_at hl 1 rfl) ?_
        refine lv_iload hx hb d_Mod_access_163 (lv_at hl 6 rfl) ?_
        refine lv_iload_n hx hb d_Mod_access_165 rfl (lv_at hl 4 rfl) ?_
        refine lv_iadd hx hb d_Mod_access_166 ?_
        obtain ⟨p167, hp167, h⟩ := of_bind h
        refine rb_callI smok C (c_Mod_read hp167) cw_Mod_114 ⟨Nat.le_of_ble_eq_true rfl, Nat.le_of_ble_eq_true rfl⟩ ⟨rfl, rfl⟩ (q0 := 0) (ci := 4) rfl rfl hI ⟨Nat.zero_le _, Nat.zero_le _⟩ (As := [.int (x5 + x3)]) rfl hl.1 (rest := []) (Nat.le_of_ble_eq_true rfl) rfl d_Mod_access_167 (fun H locs hI => ?_)
        refine lv_if_eq (tgt := 248) hx hb d_Mod_access_170 (by decide) (fun hc => ?_) (fun hc => ?_)
        · replace h := of_pos hc h
          replace h := Option.some.inj h
          subst h
          exact rb_retV C hr hI d_Mod_access_248
        · replace h := of_neg hc h
          refine lv_aload_n hx hb d_Mod_access_173 rfl (lv_at hl 1 rfl) ?_
          refine gf_Mod_37 C hI d_Mod_access_174 ?_
          refine lv_iconst (v := 4) hx hb d_Mod_access_177 (by decide) ?_
          refine lv_iload hx hb d_Mod_access_178 (lv_at hl 7 rfl) ?_
          refine lv_imul hx hb d_Mod_access_180 ?_
          refine lv_iload hx hb d_Mod_access_181 (lv_at hl 5 rfl) ?_
          refine lv_iadd hx hb d_Mod_access_183 ?_
          refine lv_aload_n hx hb d_Mod_access_184 rfl (lv_at hl 1 rfl) ?_
          refine gf_Mod_37 C hI d_Mod_access_185 ?_
          refine lv_iload hx hb d_Mod_access_188 (lv_at hl 6 rfl) ?_
          refine lv_iload_n hx hb d_Mod_access_190 rfl (lv_at hl 4 rfl) ?_
          refine lv_iadd hx hb d_Mod_access_191 ?_
          obtain ⟨hg192, h⟩ := of_guard h
          refine al_M_9 C hI (f := p167.2.2 9) rfl hg192 d_Mod_access_192 ?_
          obtain ⟨hg193, h⟩ := of_guard h
          refine as_M_9 C hI (σ' := (p167.2.1, va_up p167.2.2 9 (upd (p167.2.2 9) (((4 : Int32) * x7) + x4).toNatClampNeg ((p167.2.2 9) (x5 + x3).toNatClampNeg)))) rfl hg193 d_Mod_access_193 (fun H locs hI => ?_)
          refine lv_goto (tgt := 248) hx hb d_Mod_access_194 (by decide) ?_
          replace h := Option.some.inj h
          subst h
          exact rb_retV C hr hI d_Mod_access_248
    · replace h := of_pos hc h
      refine lv_aload_n hx hb d_Mod_access_118 rfl (lv_at hl 1 rfl) ?_
      refine lv_iconst (v := 4) hx hb d_Mod_access_119 (by decide) ?_
      refine lv_iload hx hb d_Mod_access_120 (lv_at hl 7 rfl) ?_
      refine lv_imul hx hb d_Mod_access_122 ?_
      refine lv_iload hx hb d_Mod_access_123 (lv_at hl 5 rfl) ?_
      refine lv_iadd hx hb d_Mod_access_125 ?_
      obtain ⟨p126, hp126, h⟩ := of_bind h
      refine rb_callI smok C (c_Mod_read hp126) cw_Mod_114 ⟨Nat.le_of_ble_eq_true rfl, Nat.le_of_ble_eq_true rfl⟩ ⟨rfl, rfl⟩ (q0 := 0) (ci := 4) rfl rfl hI ⟨Nat.zero_le _, Nat.zero_le _⟩ (As := [.int (((4 : Int32) * x7) + x4)]) rfl hl.1 (rest := []) (Nat.le_of_ble_eq_true rfl) rfl d_Mod_access_126 (fun H locs hI => ?_)
      refine lv_if_eq (tgt := 248) hx hb d_Mod_access_129 (by decide) (fun hc => ?_) (fun hc => ?_)
      · replace h := of_pos hc h
        replace h := Option.some.inj h
        subst h
        exact rb_retV C hr hI d_Mod_access_248
      · replace h := of_neg hc h
        refine lv_aload_n hx hb d_Mod_access_132 rfl (lv_at hl 1 rfl) ?_
        refine gf_Mod_37 C hI d_Mod_access_133 ?_
        refine lv_iload hx hb d_Mod_access_136 (lv_at hl 6 rfl) ?_
        refine lv_iload_n hx hb d_Mod_access_138 rfl (lv_at hl 3 rfl) ?_
        refine lv_iadd hx hb d_Mod_access_139 ?_
        refine lv_aload_n hx hb d_Mod_access_140 rfl (lv_at hl 1 rfl) ?_
        refine gf_Mod_37 C hI d_Mod_access_141 ?_
        refine lv_iconst (v := 4) hx hb d_Mod_access_144 (by decide) ?_
        refine lv_iload hx hb d_Mod_access_145 (lv_at hl 7 rfl) ?_
        refine lv_imul hx hb d_Mod_access_147 ?_
        refine lv_iload hx hb d_Mod_access_148 (lv_at hl 5 rfl) ?_
        refine lv_iadd hx hb d_Mod_access_150 ?_
        obtain ⟨hg151, h⟩ := of_guard h
        refine al_M_9 C hI (f := p126.2.2 9) rfl hg151 d_Mod_access_151 ?_
        obtain ⟨hg152, h⟩ := of_guard h
        refine as_M_9 C hI (σ' := (p126.2.1, va_up p126.2.2 9 (upd (p126.2.2 9) (x5 + x2).toNatClampNeg ((p126.2.2 9) (((4 : Int32) * x7) + x4).toNatClampNeg)))) rfl hg152 d_Mod_access_152 (fun H locs hI => ?_)
        refine lv_goto (tgt := 248) hx hb d_Mod_access_153 (by decide) ?_
        replace h := Option.some.inj h
        subst h
        exact rb_retV C hr hI d_Mod_access_248
  · replace h := of_neg hc h
    refine lv_aload_n hx hb d_Mod_access_105 rfl (lv_at hl 1 rfl) ?_
    refine lv_iconst (v := 2) hx hb d_Mod_access_106 (by decide) ?_
    obtain ⟨p107, hp107, h⟩ := of_bind h
    refine rb_callV smok C (c_Mod_raise hp107) cw_Mod_176 ⟨Nat.le_of_ble_eq_true rfl, Nat.le_of_ble_eq_true rfl⟩ ⟨rfl, rfl⟩ (q0 := 0) (ci := 4) rfl rfl hI ⟨Nat.zero_le _, Nat.zero_le _⟩ (As := [.int 2]) rfl hl.1 (rest := []) (Nat.le_of_ble_eq_true rfl) rfl d_Mod_access_107 (fun H locs hI => ?_)
    refine lv_goto (tgt := 248) hx hb d_Mod_access_110 (by decide) ?_
    replace h := Option.some.inj h
    subst h
    exact rb_retV C hr hI d_Mod_access_248
set_option maxHeartbeats 4000000 in
set_option maxRecDepth 100000 in
theorem j_Mod_access_J30 {l : Launch} {dC : Nat → ClassId} {dI : Nat → Nat → Nat} {a : Nat → Nat} {cI cZ : ClassId} {pr : Program} {e : Env} {s : State} {m : MethodId} {args : Array Value} {below : List Frame} {meth : Method} {c : Code} {A : Nat → Prop} {ls : Array Slot} {H : Heap} {locs : List Loc} {σ : St} {x1 x2 x3 x4 x5 s0 : Int32} {q : St} (C : Cx (dC, dI) clA (tyM cI cZ) SXm pr s m args meth c b_Mod_access 9 y_Mod_access.cls A) (hr : meth.sig.returnType = none) (h : fMod_access_J30 σ x1 x2 x3 x4 x5 s0 = some q) (hl : lv_has ls 9 [(0, .ref (a 0)), (1, .int x1), (2, .int x2), (3, .int x3), (4, .int x4), (5, .int x5)]) (hI : Wi (dC, dI) clA (wM a cI cZ σ) s A H locs)  : W pr l e rm_Mod_access s m args below meth c H locs 0 0 (MQ below (rb_Qv (dC, dI) clA (tyM cI cZ) (wM a cI cZ q) A) args s 0 0 A) (F0 m 30 ls [.int s0]) := by
  have hx := C.1
  have hb := C.2.1
  unfold fMod_access_J30 at h
  refine lv_istore (lv' := [(6, .int s0), (0, .ref (a 0)), (1, .int x1), (2, .int x2), (3, .int x3), (4, .int x4), (5, .int x5)]) hx hb d_Mod_access_30 hl (by decide) rfl (fun ls hl => ?_)
  refine lv_aload_n hx hb d_Mod_access_32 rfl (lv_at hl 1 rfl) ?_
  refine lv_iload hx hb d_Mod_access_33 (lv_at hl 0 rfl) ?_
  obtain ⟨p35, hp35, h⟩ := of_bind h
  refine rb_callI smok C (c_Mod_read hp35) cw_Mod_114 ⟨Nat.le_of_ble_eq_true rfl, Nat.le_of_ble_eq_true rfl⟩ ⟨rfl, rfl⟩ (q0 := 0) (ci := 4) rfl rfl hI ⟨Nat.zero_le _, Nat.zero_le _⟩ (As := [.int s0]) rfl hl.1 (rest := []) (Nat.le_of_ble_eq_true rfl) rfl d_Mod_access_35 (fun H locs hI => ?_)
  refine lv_if_ne (tgt := 42) hx hb d_Mod_access_38 (by decide) (fun hc => ?_) (fun hc => ?_)
  · replace h := of_neg hc h
    refine lv_aload_n hx hb d_Mod_access_42 rfl (lv_at hl 1 rfl) ?_
    refine gf_Mod_37 C hI d_Mod_access_43 ?_
    refine lv_iload hx hb d_Mod_access_46 (lv_at hl 0 rfl) ?_
    obtain ⟨hg48, h⟩ := of_guard h
    refine al_M_9 C hI (f := p35.2.2 9) rfl hg48 d_Mod_access_48 ?_
    refine lv_istore (lv' := [(7, .int ((p35.2.2 9) s0.toNatClampNeg)), (6, .int s0), (0, .ref (a 0)), (1, .int x1), (2, .int x2), (3, .int x3), (4, .int x4), (5, .int x5)]) hx hb d_Mod_access_49 hl (by decide) rfl (fun ls hl => ?_)
    refine lv_iload hx hb d_Mod_access_51 (lv_at hl 0 rfl) ?_
    refine lv_iconst (v := (-1)) hx hb d_Mod_access_53 (by decide) ?_
    refine lv_icmp_ne (tgt := 63) hx hb d_Mod_access_54 (by decide) (fun hc => ?_) (fun hc => ?_)
    · replace h := of_neg hc h
      refine lv_iload_n hx hb d_Mod_access_63 rfl (lv_at hl 3 rfl) ?_
      refine lv_bipush (v := 6) hx hb d_Mod_access_64 (by decide) ?_
      refine lv_icmp_gt (tgt := 84) hx hb d_Mod_access_66 (by decide) (fun hc => ?_) (fun hc => ?_)
      · replace h := of_pos hc h
        refine lv_aload_n hx hb d_Mod_access_84 rfl (lv_at hl 2 rfl) ?_
        refine gf_Mod_13 C hI d_Mod_access_85 ?_
        refine lv_aload_n hx hb d_Mod_access_88 rfl (lv_at hl 2 rfl) ?_
        refine gf_Mod_31 C hI d_Mod_access_89 ?_
        refine lv_iload hx hb d_Mod_access_92 (lv_at hl 0 rfl) ?_
        obtain ⟨hg94, h⟩ := of_guard h
        refine al_M_7 C hI (f := p35.2.2 7) rfl hg94 d_Mod_access_94 ?_
        obtain ⟨hg95, h⟩ := of_guard h
        refine al_M_1 C hI (f := p35.2.2 1) rfl hg95 d_Mod_access_95 ?_
        exact j_Mod_access_J96 C hr h (lv_sub hl [2, 3, 4, 5, 6, 7, 0] rfl) hI
      · replace h := of_neg hc h
        refine lv_aload_n hx hb d_Mod_access_69 rfl (lv_at hl 2 rfl) ?_
        refine gf_Mod_7 C hI d_Mod_access_70 ?_
        refine lv_aload_n hx hb d_Mod_access_73 rfl (lv_at hl 2 rfl) ?_
        refine gf_Mod_31 C hI d_Mod_access_74 ?_
        refine lv_iload hx hb d_Mod_access_77 (lv_at hl 0 rfl) ?_
        obtain ⟨hg79, h⟩ := of_guard h
        refine al_M_7 C hI (f := p35.2.2 7) rfl hg79 d_Mod_access_79 ?_
        obtain ⟨hg80, h⟩ := of_guard h
        refine al_M_0 C hI (f := p35.2.2 0) rfl hg80 d_Mod_access_80 ?_
        refine lv_goto (tgt := 96) hx hb d_Mod_access_81 (by decide) ?_
        exact j_Mod_access_J96 C hr h (lv_sub hl [2, 3, 4, 5, 6, 7, 0] rfl) hI
    · replace h := of_pos hc h
      refine lv_aload_n hx hb d_Mod_access_57 rfl (lv_at hl 2 rfl) ?_
      refine lv_iconst (v := 1) hx hb d_Mod_access_58 (by decide) ?_
      obtain ⟨p59, hp59, h⟩ := of_bind h
      refine rb_callV smok C (c_Mod_raise hp59) cw_Mod_176 ⟨Nat.le_of_ble_eq_true rfl, Nat.le_of_ble_eq_true rfl⟩ ⟨rfl, rfl⟩ (q0 := 0) (ci := 4) rfl rfl hI ⟨Nat.zero_le _, Nat.zero_le _⟩ (As := [.int 1]) rfl hl.1 (rest := []) (Nat.le_of_ble_eq_true rfl) rfl d_Mod_access_59 (fun H locs hI => ?_)
      replace h := Option.some.inj h
      subst h
      exact rb_retV C hr hI d_Mod_access_62
  · replace h := of_pos hc h
    replace h := Option.some.inj h
    subst h
    exact rb_retV C hr hI d_Mod_access_41
set_option maxHeartbeats 4000000 in
set_option maxRecDepth 100000 in
theorem j_Mod_access_J19 {l : Launch} {dC : Nat → ClassId} {dI : Nat → Nat → Nat} {a : Nat → Nat} {cI cZ : ClassId} {pr : Program} {e : Env} {s : State} {m : MethodId} {args : Array Value} {below : List Frame} {meth : Method} {c : Code} {A : Nat → Prop} {ls : Array Slot} {H : Heap} {locs : List Loc} {σ : St} {x1 x2 x3 x4 x5 : Int32} {q : St} (C : Cx (dC, dI) clA (tyM cI cZ) SXm pr s m args meth c b_Mod_access 9 y_Mod_access.cls A) (hr : meth.sig.returnType = none) (h : fMod_access_J19 σ x1 x2 x3 x4 x5 = some q) (hl : lv_has ls 9 [(0, .ref (a 0)), (1, .int x1), (2, .int x2), (3, .int x3), (4, .int x4), (5, .int x5)]) (hI : Wi (dC, dI) clA (wM a cI cZ σ) s A H locs)  : W pr l e rm_Mod_access s m args below meth c H locs 0 0 (MQ below (rb_Qv (dC, dI) clA (tyM cI cZ) (wM a cI cZ q) A) args s 0 0 A) (F0 m 19 ls []) := by
  have hx := C.1
  have hb := C.2.1
  unfold fMod_access_J19 at h
  refine lv_iload hx hb d_Mod_access_19 (lv_at hl 5 rfl) ?_
  refine lv_iload_n hx hb d_Mod_access_21 rfl (lv_at hl 3 rfl) ?_
  refine lv_iadd hx hb d_Mod_access_22 ?_
  refine lv_goto (tgt := 30) hx hb d_Mod_access_23 (by decide) ?_
  exact j_Mod_access_J30 C hr h (lv_sub hl [0, 1, 2, 3, 4, 5] rfl) hI
set_option maxHeartbeats 4000000 in
set_option maxRecDepth 100000 in
theorem c_Mod_access {l : Launch} {dC : Nat → ClassId} {dI : Nat → Nat → Nat} {a : Nat → Nat} {cI cZ : ClassId} {σ : St} {x1 x2 x3 x4 : Int32} {q : St} (h : fMod_access σ x1 x2 x3 x4 = some q) : CV l (dC, dI) clA (tyM cI cZ) SXm (wM a cI cZ σ) (wM a cI cZ q) y_Mod_access b_Mod_access 9 none rm_Mod_access [.ref (a 0), .int x1, .int x2, .int x3, .int x4] := by
  refine CV_of (by decide) (Nat.le_of_ble_eq_true rfl) ?_
  intro pr e s m below meth c A ls C hr hl hI
  have hx := C.1
  have hb := C.2.1
  have hl : lv_has ls 9 [(0, .ref (a 0)), (1, .int x1), (2, .int x2), (3, .int x3), (4, .int x4)] := hl
  unfold fMod_access at h
  refine lv_iconst (v := 4) hx hb d_Mod_access_0 (by decide) ?_
  refine lv_aload_n hx hb d_Mod_access_1 rfl (lv_at hl 0 rfl) ?_
  refine gf_Mod_120 C hI (v := σ.1 9) rfl d_Mod_access_2 ?_
  refine lv_imul hx hb d_Mod_access_5 ?_
  refine lv_istore (lv' := [(5, .int ((4 : Int32) * (σ.1 9))), (0, .ref (a 0)), (1, .int x1), (2, .int x2), (3, .int x3), (4, .int x4)]) hx hb d_Mod_access_6 hl (by decide) rfl (fun ls hl => ?_)
  refine lv_iload_n hx hb d_Mod_access_8 rfl (lv_at hl 2 rfl) ?_
  refine lv_iconst (v := 5) hx hb d_Mod_access_9 (by decide) ?_
  refine lv_icmp_eq (tgt := 19) hx hb d_Mod_access_10 (by decide) (fun hc => ?_) (fun hc => ?_)
  · replace h := of_pos hc h
    exact j_Mod_access_J19 C hr h (lv_sub hl [1, 2, 3, 4, 5, 0] rfl) hI
  · replace h := of_neg hc h
    refine lv_iload_n hx hb d_Mod_access_13 rfl (lv_at hl 2 rfl) ?_
    refine lv_bipush (v := 7) hx hb d_Mod_access_14 (by decide) ?_
    refine lv_icmp_ne (tgt := 26) hx hb d_Mod_access_16 (by decide) (fun hc => ?_) (fun hc => ?_)
    · replace h := of_neg hc h
      refine lv_iload hx hb d_Mod_access_26 (lv_at hl 0 rfl) ?_
      refine lv_iload_n hx hb d_Mod_access_28 rfl (lv_at hl 3 rfl) ?_
      refine lv_iadd hx hb d_Mod_access_29 ?_
      exact j_Mod_access_J30 C hr h (lv_sub hl [1, 2, 3, 4, 5, 0] rfl) hI
    · replace h := of_pos hc h
      exact j_Mod_access_J19 C hr h (lv_sub hl [1, 2, 3, 4, 5, 0] rfl) hI
