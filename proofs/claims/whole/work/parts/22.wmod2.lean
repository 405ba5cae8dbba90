theorem d_Mod_size_0 : decode b_Mod_size 0 = .ok (.aload_n 0, 1) := by decide +kernel
theorem d_Mod_size_1 : decode b_Mod_size 1 = .ok (.getfield 31, 3) := by decide +kernel
theorem d_Mod_size_4 : decode b_Mod_size 4 = .ok (.iload_n 1, 1) := by decide +kernel
theorem d_Mod_size_5 : decode b_Mod_size 5 = .ok (.iaload, 1) := by decide +kernel
theorem d_Mod_size_6 : decode b_Mod_size 6 = .ok (.iconst (-1), 1) := by decide +kernel
theorem d_Mod_size_7 : decode b_Mod_size 7 = .ok (.if_icmp .ne 8, 3) := by decide +kernel
theorem d_Mod_size_10 : decode b_Mod_size 10 = .ok (.bipush 9, 2) := by decide +kernel
theorem d_Mod_size_12 : decode b_Mod_size 12 = .ok (.goto 28, 3) := by decide +kernel
theorem d_Mod_size_15 : decode b_Mod_size 15 = .ok (.iconst 1, 1) := by decide +kernel
theorem d_Mod_size_16 : decode b_Mod_size 16 = .ok (.aload_n 0, 1) := by decide +kernel
theorem d_Mod_size_17 : decode b_Mod_size 17 = .ok (.getfield 7, 3) := by decide +kernel
theorem d_Mod_size_20 : decode b_Mod_size 20 = .ok (.aload_n 0, 1) := by decide +kernel
theorem d_Mod_size_21 : decode b_Mod_size 21 = .ok (.getfield 31, 3) := by decide +kernel
theorem d_Mod_size_24 : decode b_Mod_size 24 = .ok (.iload_n 1, 1) := by decide +kernel
theorem d_Mod_size_25 : decode b_Mod_size 25 = .ok (.iaload, 1) := by decide +kernel
theorem d_Mod_size_26 : decode b_Mod_size 26 = .ok (.iaload, 1) := by decide +kernel
theorem d_Mod_size_27 : decode b_Mod_size 27 = .ok (.iadd, 1) := by decide +kernel
theorem d_Mod_size_28 : decode b_Mod_size 28 = .ok (.aload_n 0, 1) := by decide +kernel
theorem d_Mod_size_29 : decode b_Mod_size 29 = .ok (.getfield 13, 3) := by decide +kernel
theorem d_Mod_size_32 : decode b_Mod_size 32 = .ok (.aload_n 0, 1) := by decide +kernel
theorem d_Mod_size_33 : decode b_Mod_size 33 = .ok (.getfield 31, 3) := by decide +kernel
theorem d_Mod_size_36 : decode b_Mod_size 36 = .ok (.iload_n 1, 1) := by decide +kernel
theorem d_Mod_size_37 : decode b_Mod_size 37 = .ok (.iaload, 1) := by decide +kernel
theorem d_Mod_size_38 : decode b_Mod_size 38 = .ok (.iaload, 1) := by decide +kernel
theorem d_Mod_size_39 : decode b_Mod_size 39 = .ok (.iadd, 1) := by decide +kernel
theorem d_Mod_size_40 : decode b_Mod_size 40 = .ok (.ireturn, 1) := by decide +kernel
abbrev rm_Mod_size : Room := { frames := 0, cells := 0, slots := 0, locals := 0 }
set_option maxHeartbeats 4000000 in
set_option maxRecDepth 100000 in
theorem c_Mod_size {l : Launch} {dC : Nat → ClassId} {dI : Nat → Nat → Nat} {a : Nat → Nat} {cI cZ : ClassId} {σ : St} {x1 : Int32} {q : Int32 × St} (h : fMod_size σ x1 = some q) : CI l (dC, dI) clA (tyM cI cZ) SXm (wM a cI cZ σ) (wM a cI cZ q.2) y_Mod_size b_Mod_size 2 (some .int) rm_Mod_size [.ref (a 0), .int x1] q.1 := by
  refine CI_of (by decide) (Nat.le_of_ble_eq_true rfl) ?_
  intro pr e s m below meth c A ls C hr hl hI
  have hx := C.1
  have hb := C.2.1
  have hl : lv_has ls 2 [(0, .ref (a 0)), (1, .int x1)] := hl
  unfold fMod_size at h
  refine lv_aload_n hx hb d_Mod_size_0 rfl (lv_at hl 0 rfl) ?_
  refine gf_Mod_31 C hI d_Mod_size_1 ?_
  refine lv_iload_n hx hb d_Mod_size_4 rfl (lv_at hl 1 rfl) ?_
  obtain ⟨hg5, h⟩ := of_guard h
  refine al_M_7 C hI (f := σ.2 7) rfl hg5 d_Mod_size_5 ?_
  refine lv_iconst (v := (-1)) hx hb d_Mod_size_6 (by decide) ?_
  refine lv_icmp_ne (tgt := 15) hx hb d_Mod_size_7 (by decide) (fun hc => ?_) (fun hc => ?_)
  · replace h := of_neg hc h
    refine lv_iconst (v := 1) hx hb d_Mod_size_15 (by decide) ?_
    refine lv_aload_n hx hb d_Mod_size_16 rfl (lv_at hl 0 rfl) ?_
    refine gf_Mod_7 C hI d_Mod_size_17 ?_
    refine lv_aload_n hx hb d_Mod_size_20 rfl (lv_at hl 0 rfl) ?_
    refine gf_Mod_31 C hI d_Mod_size_21 ?_
    refine lv_iload_n hx hb d_Mod_size_24 rfl (lv_at hl 1 rfl) ?_
    obtain ⟨hg25, h⟩ := of_guard h
    refine al_M_7 C hI (f := σ.2 7) rfl hg25 d_Mod_size_25 ?_
    obtain ⟨hg26, h⟩ := of_guard h
    refine al_M_0 C hI (f := σ.2 0) rfl hg26 d_Mod_size_26 ?_
    refine lv_iadd hx hb d_Mod_size_27 ?_
    refine lv_aload_n hx hb d_Mod_size_28 rfl (lv_at hl 0 rfl) ?_
    refine gf_Mod_13 C hI d_Mod_size_29 ?_
    refine lv_aload_n hx hb d_Mod_size_32 rfl (lv_at hl 0 rfl) ?_
    refine gf_Mod_31 C hI d_Mod_size_33 ?_
    refine lv_iload_n hx hb d_Mod_size_36 rfl (lv_at hl 1 rfl) ?_
    obtain ⟨hg37, h⟩ := of_guard h
    refine al_M_7 C hI (f := σ.2 7) rfl hg37 d_Mod_size_37 ?_
    obtain ⟨hg38, h⟩ := of_guard h
    refine al_M_1 C hI (f := σ.2 1) rfl hg38 d_Mod_size_38 ?_
    refine lv_iadd hx hb d_Mod_size_39 ?_
    replace h := Option.some.inj h
    subst h
    exact rb_retI C hr hI d_Mod_size_40
  · replace h := of_pos hc h
    refine lv_bipush (v := 9) hx hb d_Mod_size_10 (by decide) ?_
    refine lv_goto (tgt := 40) hx hb d_Mod_size_12 (by decide) ?_
    replace h := Option.some.inj h
    subst h
    exact rb_retI C hr hI d_Mod_size_40
theorem d_Mod_create_0 : decode b_Mod_create 0 = .ok (.iconst 0, 1) := by decide +kernel
theorem d_Mod_create_1 : decode b_Mod_create 1 = .ok (.istore_n 3, 1) := by decide +kernel
theorem d_Mod_create_2 : decode b_Mod_create 2 = .ok (.iload_n 3, 1) := by decide +kernel
theorem d_Mod_create_3 : decode b_Mod_create 3 = .ok (.sipush 239, 3) := by decide +kernel
theorem d_Mod_create_6 : decode b_Mod_create 6 = .ok (.if_icmp .ge 18, 3) := by decide +kernel
theorem d_Mod_create_9 : decode b_Mod_create 9 = .ok (.aload_n 0, 1) := by decide +kernel
theorem d_Mod_create_10 : decode b_Mod_create 10 = .ok (.getfield 28, 3) := by decide +kernel
theorem d_Mod_create_13 : decode b_Mod_create 13 = .ok (.iload_n 3, 1) := by decide +kernel
theorem d_Mod_create_14 : decode b_Mod_create 14 = .ok (.iaload, 1) := by decide +kernel
theorem d_Mod_create_15 : decode b_Mod_create 15 = .ok (.ifCond .eq 9, 3) := by decide +kernel
theorem d_Mod_create_18 : decode b_Mod_create 18 = .ok (.iinc 3 1, 3) := by decide +kernel
theorem d_Mod_create_21 : decode b_Mod_create 21 = .ok (.goto (-19), 3) := by decide +kernel
theorem d_Mod_create_24 : decode b_Mod_create 24 = .ok (.aload_n 0, 1) := by decide +kernel
theorem d_Mod_create_25 : decode b_Mod_create 25 = .ok (.getfield 28, 3) := by decide +kernel
theorem d_Mod_create_28 : decode b_Mod_create 28 = .ok (.iload_n 3, 1) := by decide +kernel
theorem d_Mod_create_29 : decode b_Mod_create 29 = .ok (.iconst 1, 1) := by decide +kernel
theorem d_Mod_create_30 : decode b_Mod_create 30 = .ok (.iastore, 1) := by decide +kernel
theorem d_Mod_create_31 : decode b_Mod_create 31 = .ok (.aload_n 0, 1) := by decide +kernel
theorem d_Mod_create_32 : decode b_Mod_create 32 = .ok (.getfield 31, 3) := by decide +kernel
theorem d_Mod_create_35 : decode b_Mod_create 35 = .ok (.iload_n 3, 1) := by decide +kernel
theorem d_Mod_create_36 : decode b_Mod_create 36 = .ok (.iload_n 1, 1) := by decide +kernel
theorem d_Mod_create_37 : decode b_Mod_create 37 = .ok (.iastore, 1) := by decide +kernel
theorem d_Mod_create_38 : decode b_Mod_create 38 = .ok (.aload_n 0, 1) := by decide +kernel
theorem d_Mod_create_39 : decode b_Mod_create 39 = .ok (.getfield 34, 3) := by decide +kernel
theorem d_Mod_create_42 : decode b_Mod_create 42 = .ok (.iload_n 3, 1) := by decide +kernel
theorem d_Mod_create_43 : decode b_Mod_create 43 = .ok (.iload_n 2, 1) := by decide +kernel
theorem d_Mod_create_44 : decode b_Mod_create 44 = .ok (.iastore, 1) := by decide +kernel
theorem d_Mod_create_45 : decode b_Mod_create 45 = .ok (.iconst 0, 1) := by decide +kernel
theorem d_Mod_create_46 : decode b_Mod_create 46 = .ok (.istore 4, 2) := by decide +kernel
theorem d_Mod_create_48 : decode b_Mod_create 48 = .ok (.iload 4, 2) := by decide +kernel
theorem d_Mod_create_50 : decode b_Mod_create 50 = .ok (.iconst 4, 1) := by decide +kernel
theorem d_Mod_create_51 : decode b_Mod_create 51 = .ok (.if_icmp .ge 33, 3) := by decide +kernel
theorem d_Mod_create_54 : decode b_Mod_create 54 = .ok (.aload_n 0, 1) := by decide +kernel
theorem d_Mod_create_55 : decode b_Mod_create 55 = .ok (.getfield 37, 3) := by decide +kernel
theorem d_Mod_create_58 : decode b_Mod_create 58 = .ok (.iconst 4, 1) := by decide +kernel
theorem d_Mod_create_59 : decode b_Mod_create 59 = .ok (.iload_n 3, 1) := by decide +kernel
theorem d_Mod_create_60 : decode b_Mod_create 60 = .ok (.imul, 1) := by decide +kernel
theorem d_Mod_create_61 : decode b_Mod_create 61 = .ok (.iload 4, 2) := by decide +kernel
theorem d_Mod_create_63 : decode b_Mod_create 63 = .ok (.iadd, 1) := by decide +kernel
theorem d_Mod_create_64 : decode b_Mod_create 64 = .ok (.iconst (-1), 1) := by decide +kernel
theorem d_Mod_create_65 : decode b_Mod_create 65 = .ok (.iastore, 1) := by decide +kernel
theorem d_Mod_create_66 : decode b_Mod_create 66 = .ok (.aload_n 0, 1) := by decide +kernel
theorem d_Mod_create_67 : decode b_Mod_create 67 = .ok (.getfield 40, 3) := by decide +kernel
theorem d_Mod_create_70 : decode b_Mod_create 70 = .ok (.iconst 4, 1) := by decide +kernel
theorem d_Mod_create_71 : decode b_Mod_create 71 = .ok (.iload_n 3, 1) := by decide +kernel
theorem d_Mod_create_72 : decode b_Mod_create 72 = .ok (.imul, 1) := by decide +kernel
theorem d_Mod_create_73 : decode b_Mod_create 73 = .ok (.iload 4, 2) := by decide +kernel
theorem d_Mod_create_75 : decode b_Mod_create 75 = .ok (.iadd, 1) := by decide +kernel
theorem d_Mod_create_76 : decode b_Mod_create 76 = .ok (.iconst 0, 1) := by decide +kernel
theorem d_Mod_create_77 : decode b_Mod_create 77 = .ok (.iastore, 1) := by decide +kernel
theorem d_Mod_create_78 : decode b_Mod_create 78 = .ok (.iinc 4 1, 3) := by decide +kernel
theorem d_Mod_create_81 : decode b_Mod_create 81 = .ok (.goto (-33), 3) := by decide +kernel
theorem d_Mod_create_84 : decode b_Mod_create 84 = .ok (.aload_n 0, 1) := by decide +kernel
theorem d_Mod_create_85 : decode b_Mod_create 85 = .ok (.dup, 1) := by decide +kernel
theorem d_Mod_create_86 : decode b_Mod_create 86 = .ok (.getfield 88, 3) := by decide +kernel
theorem d_Mod_create_89 : decode b_Mod_create 89 = .ok (.aload_n 0, 1) := by decide +kernel
theorem d_Mod_create_90 : decode b_Mod_create 90 = .ok (.iload_n 3, 1) := by decide +kernel
theorem d_Mod_create_91 : decode b_Mod_create 91 = .ok (.invokevirtual 91, 3) := by decide +kernel
theorem d_Mod_create_94 : decode b_Mod_create 94 = .ok (.iadd, 1) := by decide +kernel
theorem d_Mod_create_95 : decode b_Mod_create 95 = .ok (.putfield 88, 3) := by decide +kernel
theorem d_Mod_create_98 : decode b_Mod_create 98 = .ok (.iload_n 3, 1) := by decide +kernel
theorem d_Mod_create_99 : decode b_Mod_create 99 = .ok (.ireturn, 1) := by decide +kernel
abbrev rm_Mod_create : Room := { frames := 1, cells := 0, slots := 0, locals := 21 }
set_option maxHeartbeats 4000000 in
set_option maxRecDepth 100000 in
theorem b_Mod_create_B2 {l : Launch} {dC : Nat → ClassId} {dI : Nat → Nat → Nat} {a : Nat → Nat} {cI cZ : ClassId} {pr : Program} {e : Env} {s : State} {m : MethodId} {args : Array Value} {below : List Frame} {meth : Method} {c : Code} {A : Nat → Prop} {ls : Array Slot} {H : Heap} {locs : List Loc} {x1 x2 : Int32} {s0 : Int32 × St} {q : Nat × (Int32 × St)} {Q : State → Prop} (C : Cx (dC, dI) clA (tyM cI cZ) SXm pr s m args meth c b_Mod_create 5 y_Mod_create.cls A) (h : fMod_create_B2 x1 x2 s0 = some q) (hl : lv_has ls 5 [(0, .ref (a 0)), (1, .int x1), (2, .int x2), (3, .int s0.1)]) (hI : Wi (dC, dI) clA (wM a cI cZ s0.2) s A H locs) (kC : q.1 = 1 → ∀ (ls : Array Slot) (H : Heap) (locs : List Loc), lv_has ls 5 [(0, .ref (a 0)), (1, .int x1), (2, .int x2), (3, .int q.2.1)] → Wi (dC, dI) clA (wM a cI cZ q.2.2) s A H locs → W pr l e rm_Mod_create s m args below meth c H locs 0 0 Q (F0 m 2 ls [])) (kX0 : q.1 = 0 → ∀ (ls : Array Slot) (H : Heap) (locs : List Loc), lv_has ls 5 [(0, .ref (a 0)), (1, .int x1), (2, .int x2), (3, .int q.2.1)] → Wi (dC, dI) clA (wM a cI cZ q.2.2) s A H locs → W pr l e rm_Mod_create s m args below meth c H locs 0 0 Q (F0 m 24 ls [])) : W pr l e rm_Mod_create s m args below meth c H locs 0 0 Q (F0 m 2 ls []) := by
  have hx := C.1
  have hb := C.2.1
  unfold fMod_create_B2 at h
  refine lv_iload_n hx hb d_Mod_create_2 rfl (lv_at hl 3 rfl) ?_
  refine lv_sipush (v := 239) hx hb d_Mod_create_3 (by decide) ?_
  refine lv_icmp_ge (tgt := 24) hx hb d_Mod_create_6 (by decide) (fun hc => ?_) (fun hc => ?_)
  · replace h := of_pos hc h
    replace h := Option.some.inj h
    subst h
    exact kX0 rfl _ _ _ (lv_sub hl [0, 1, 2, 3] rfl) hI
  · replace h := of_neg hc h
    refine lv_aload_n hx hb d_Mod_create_9 rfl (lv_at hl 0 rfl) ?_
    refine gf_Mod_28 C hI d_Mod_create_10 ?_
    refine lv_iload_n hx hb d_Mod_create_13 rfl (lv_at hl 3 rfl) ?_
    obtain ⟨hg14, h⟩ := of_guard h
    refine al_M_6 C hI (f := s0.2.2 6) rfl hg14 d_Mod_create_14 ?_
    refine lv_if_eq (tgt := 24) hx hb d_Mod_create_15 (by decide) (fun hc => ?_) (fun hc => ?_)
    · replace h := of_pos hc h
      replace h := Option.some.inj h
      subst h
      exact kX0 rfl _ _ _ (lv_sub hl [0, 1, 2, 3] rfl) hI
    · replace h := of_neg hc h
      refine lv_iinc (k := 3) (v := s0.1 + 1) (lv' := [(3, .int (s0.1 + 1)), (0, .ref (a 0)), (1, .int x1), (2, .int x2)]) hx hb d_Mod_create_18 hl rfl rfl (by decide) rfl (fun ls hl => ?_)
      refine lv_goto (tgt := 2) hx hb d_Mod_create_21 (by decide) ?_
      replace h := Option.some.inj h
      subst h
      exact kC rfl _ _ _ (lv_sub hl [1, 2, 3, 0] rfl) hI
set_option maxHeartbeats 4000000 in
set_option maxRecDepth 100000 in
theorem l_Mod_create_B2 {l : Launch} {dC : Nat → ClassId} {dI : Nat → Nat → Nat} {a : Nat → Nat} {cI cZ : ClassId} {pr : Program} {e : Env} {s : State} {m : MethodId} {args : Array Value} {below : List Frame} {meth : Method} {c : Code} {A : Nat → Prop} {x1 x2 : Int32} {Q : State → Prop} (C : Cx (dC, dI) clA (tyM cI cZ) SXm pr s m args meth c b_Mod_create 5 y_Mod_create.cls A) : ∀ (k : Nat) (s0 : Int32 × St) (q : Nat × (Int32 × St)) (ls : Array Slot) (H : Heap) (locs : List Loc), rbLoop (fMod_create_B2 x1 x2) k s0 = some q → lv_has ls 5 [(0, .ref (a 0)), (1, .int x1), (2, .int x2), (3, .int s0.1)] → Wi (dC, dI) clA (wM a cI cZ s0.2) s A H locs → (q.1 = 0 → ∀ (ls : Array Slot) (H : Heap) (locs : List Loc), lv_has ls 5 [(0, .ref (a 0)), (1, .int x1), (2, .int x2), (3, .int q.2.1)] → Wi (dC, dI) clA (wM a cI cZ q.2.2) s A H locs → W pr l e rm_Mod_create s m args below meth c H locs 0 0 Q (F0 m 24 ls [])) → W pr l e rm_Mod_create s m args below meth c H locs 0 0 Q (F0 m 2 ls []) := by
  intro k
  induction k with
  | zero => intro s0 q ls H locs h; cases h
  | succ k ih =>
    intro s0 q ls H locs h hl hI kX0
    obtain ⟨q1, hq1, h⟩ := rbLoop_succ h
    by_cases hc : q1.1 = 1
    · replace h := of_pos hc h
      refine b_Mod_create_B2 C hq1 hl hI (fun _ ls H locs hl hI => ih _ _ _ _ _ h hl hI kX0) (fun hz => absurd (hc.symm.trans hz) (by decide))
    · replace h := of_neg hc h
      cases h
      exact b_Mod_create_B2 C hq1 hl hI (fun hz => absurd hz hc) kX0
set_option maxHeartbeats 4000000 in
set_option maxRecDepth 100000 in
theorem b_Mod_create_B48 {l : Launch} {dC : Nat → ClassId} {dI : Nat → Nat → Nat} {a : Nat → Nat} {cI cZ : ClassId} {pr : Program} {e : Env} {s : State} {m : MethodId} {args : Array Value} {below : List Frame} {meth : Method} {c : Code} {A : Nat → Prop} {ls : Array Slot} {H : Heap} {locs : List Loc} {x3 : Int32} {s0 : Int32 × St} {q : Nat × (Int32 × St)} {Q : State → Prop} (C : Cx (dC, dI) clA (tyM cI cZ) SXm pr s m args meth c b_Mod_create 5 y_Mod_create.cls A) (h : fMod_create_B48 x3 s0 = some q) (hl : lv_has ls 5 [(0, .ref (a 0)), (3, .int x3), (4, .int s0.1)]) (hI : Wi (dC, dI) clA (wM a cI cZ s0.2) s A H locs) (kC : q.1 = 1 → ∀ (ls : Array Slot) (H : Heap) (locs : List Loc), lv_has ls 5 [(0, .ref (a 0)), (3, .int x3), (4, .int q.2.1)] → Wi (dC, dI) clA (wM a cI cZ q.2.2) s A H locs → W pr l e rm_Mod_create s m args below meth c H locs 0 0 Q (F0 m 48 ls [])) (kX0 : q.1 = 0 → ∀ (ls : Array Slot) (H : Heap) (locs : List Loc), lv_has ls 5 [(0, .ref (a 0)), (3, .int x3), (4, .int q.2.1)] → Wi (dC, dI) clA (wM a cI cZ q.2.2) s A H locs → W pr l e rm_Mod_create s m args below meth c H locs 0 0 Q (F0 m 84 ls [])) : W pr l e rm_Mod_create s m args below meth c H locs 0 0 Q (F0 m 48 ls []) := by
  have hx := C.1
  have hb := C.2.1
  unfold fMod_create_B48 at h
  refine lv_iload hx hb d_Mod_create_48 (lv_at hl 2 rfl) ?_
  refine lv_iconst (v := 4) hx hb d_Mod_create_50 (by decide) ?_
  refine lv_icmp_ge (tgt := 84) hx hb d_Mod_create_51 (by decide) (fun hc => ?_) (fun hc => ?_)
  · replace h := of_pos hc h
    replace h := Option.some.inj h
    subst h
    exact kX0 rfl _ _ _ (lv_sub hl [0, 1, 2] rfl) hI
  · replace h := of_neg hc h
    refine lv_aload_n hx hb d_Mod_create_54 rfl (lv_at hl 0 rfl) ?_
    refine gf_Mod_37 C hI d_Mod_create_55 ?_
    refine lv_iconst (v := 4) hx hb d_Mod_create_58 (by decide) ?_
    refine lv_iload_n hx hb d_Mod_create_59 rfl (lv_at hl 1 rfl) ?_
    refine lv_imul hx hb d_Mod_create_60 ?_
    refine lv_iload hx hb d_Mod_create_61 (lv_at hl 2 rfl) ?_
    refine lv_iadd hx hb d_Mod_create_63 ?_
    refine lv_iconst (v := (-1)) hx hb d_Mod_create_64 (by decide) ?_
    obtain ⟨hg65, h⟩ := of_guard h
    refine as_M_9 C hI (σ' := (s0.2.1, va_up s0.2.2 9 (upd (s0.2.2 9) (((4 : Int32) * x3) + s0.1).toNatClampNeg (-1)))) rfl hg65 d_Mod_create_65 (fun H locs hI => ?_)
    refine lv_aload_n hx hb d_Mod_create_66 rfl (lv_at hl 0 rfl) ?_
    refine gf_Mod_40 C hI d_Mod_create_67 ?_
    refine lv_iconst (v := 4) hx hb d_Mod_create_70 (by decide) ?_
    refine lv_iload_n hx hb d_Mod_create_71 rfl (lv_at hl 1 rfl) ?_
    refine lv_imul hx hb d_Mod_create_72 ?_
    refine lv_iload hx hb d_Mod_create_73 (lv_at hl 2 rfl) ?_
    refine lv_iadd hx hb d_Mod_create_75 ?_
    refine lv_iconst (v := 0) hx hb d_Mod_create_76 (by decide) ?_
    obtain ⟨hg77, h⟩ := of_guard h
    refine as_M_10 C hI (σ' := (s0.2.1, va_up (va_up s0.2.2 9 (upd (s0.2.2 9) (((4 : Int32) * x3) + s0.1).toNatClampNeg (-1))) 10 (upd (s0.2.2 10) (((4 : Int32) * x3) + s0.1).toNatClampNeg 0))) rfl hg77 d_Mod_create_77 (fun H locs hI => ?_)
    refine lv_iinc (k := 2) (v := s0.1 + 1) (lv' := [(4, .int (s0.1 + 1)), (0, .ref (a 0)), (3, .int x3)]) hx hb d_Mod_create_78 hl rfl rfl (by decide) rfl (fun ls hl => ?_)
    refine lv_goto (tgt := 48) hx hb d_Mod_create_81 (by decide) ?_
    replace h := Option.some.inj h
    subst h
    exact kC rfl _ _ _ (lv_sub hl [1, 2, 0] rfl) hI
set_option maxHeartbeats 4000000 in
set_option maxRecDepth 100000 in
theorem l_Mod_create_B48 {l : Launch} {dC : Nat → ClassId} {dI : Nat → Nat → Nat} {a : Nat → Nat} {cI cZ : ClassId} {pr : Program} {e : Env} {s : State} {m : MethodId} {args : Array Value} {below : List Frame} {meth : Method} {c : Code} {A : Nat → Prop} {x3 : Int32} {Q : State → Prop} (C : Cx (dC, dI) clA (tyM cI cZ) SXm pr s m args meth c b_Mod_create 5 y_Mod_create.cls A) : ∀ (k : Nat) (s0 : Int32 × St) (q : Nat × (Int32 × St)) (ls : Array Slot) (H : Heap) (locs : List Loc), rbLoop (fMod_create_B48 x3) k s0 = some q → lv_has ls 5 [(0, .ref (a 0)), (3, .int x3), (4, .int s0.1)] → Wi (dC, dI) clA (wM a cI cZ s0.2) s A H locs → (q.1 = 0 → ∀ (ls : Array Slot) (H : Heap) (locs : List Loc), lv_has ls 5 [(0, .ref (a 0)), (3, .int x3), (4, .int q.2.1)] → Wi (dC, dI) clA (wM a cI cZ q.2.2) s A H locs → W pr l e rm_Mod_create s m args below meth c H locs 0 0 Q (F0 m 84 ls [])) → W pr l e rm_Mod_create s m args below meth c H locs 0 0 Q (F0 m 48 ls []) := by
  intro k
  induction k with
  | zero => intro s0 q ls H locs h; cases h
  | succ k ih =>
    intro s0 q ls H locs h hl hI kX0
    obtain ⟨q1, hq1, h⟩ := rbLoop_succ h
    by_cases hc : q1.1 = 1
    · replace h := of_pos hc h
      refine b_Mod_create_B48 C hq1 hl hI (fun _ ls H locs hl hI => ih _ _ _ _ _ h hl hI kX0) (fun hz => absurd (hc.symm.trans hz) (by decide))
    · replace h := of_neg hc h
      cases h
      exact b_Mod_create_B48 C hq1 hl hI (fun hz => absurd hz hc) kX0
set_option maxHeartbeats 4000000 in
set_option maxRecDepth 100000 in
theorem j_Mod_create_J24 {l : Launch} {dC : Nat → ClassId} {dI : Nat → Nat → Nat} {a : Nat → Nat} {cI cZ : ClassId} {pr : Program} {e : Env} {s : State} {m : MethodId} {args : Array Value} {below : List Frame} {meth : Method} {c : Code} {A : Nat → Prop} {ls : Array Slot} {H : Heap} {locs : List Loc} {σ : St} {x1 x2 x3 : Int32} {q : Int32 × St} (C : Cx (dC, dI) clA (tyM cI cZ) SXm pr s m args meth c b_Mod_create 5 y_Mod_create.cls A) (hr : meth.sig.returnType = (some .int)) (h : fMod_create_J24 σ x1 x2 x3 = some q) (hl : lv_has ls 5 [(0, .ref (a 0)), (1, .int x1), (2, .int x2), (3, .int x3)]) (hI : Wi (dC, dI) clA (wM a cI cZ σ) s A H locs)  : W pr l e rm_Mod_create s m args below meth c H locs 0 0 (MQ below (rb_Qi (dC, dI) clA (tyM cI cZ) (wM a cI cZ q.2) q.1 A) args s 0 0 A) (F0 m 24 ls []) := by
  have hx := C.1
  have hb := C.2.1
  unfold fMod_create_J24 at h
  refine lv_aload_n hx hb d_Mod_create_24 rfl (lv_at hl 0 rfl) ?_
  refine gf_Mod_28 C hI d_Mod_create_25 ?_
  refine lv_iload_n hx hb d_Mod_create_28 rfl (lv_at hl 3 rfl) ?_
  refine lv_iconst (v := 1) hx hb d_Mod_create_29 (by decide) ?_
  obtain ⟨hg30, h⟩ := of_guard h
  refine as_M_6 C hI (σ' := (σ.1, va_up σ.2 6 (upd (σ.2 6) x3.toNatClampNeg 1))) rfl hg30 d_Mod_create_30 (fun H locs hI => ?_)
  refine lv_aload_n hx hb d_Mod_create_31 rfl (lv_at hl 0 rfl) ?_
  refine gf_Mod_31 C hI d_Mod_create_32 ?_
  refine lv_iload_n hx hb d_Mod_create_35 rfl (lv_at hl 3 rfl) ?_
  refine lv_iload_n hx hb d_Mod_create_36 rfl (lv_at hl 1 rfl) ?_
  obtain ⟨hg37, h⟩ := of_guard h
  refine as_M_7 C hI (σ' := (σ.1, va_up (va_up σ.2 6 (upd (σ.2 6) x3.toNatClampNeg 1)) 7 (upd (σ.2 7) x3.toNatClampNeg x1))) rfl hg37 d_Mod_create_37 (fun H locs hI => ?_)
  refine lv_aload_n hx hb d_Mod_create_38 rfl (lv_at hl 0 rfl) ?_
  refine gf_Mod_34 C hI d_Mod_create_39 ?_
  refine lv_iload_n hx hb d_Mod_create_42 rfl (lv_at hl 3 rfl) ?_
  refine lv_iload_n hx hb d_Mod_create_43 rfl (lv_at hl 2 rfl) ?_
  obtain ⟨hg44, h⟩ := of_guard h
  refine as_M_8 C hI (σ' := (σ.1, va_up (va_up (va_up σ.2 6 (upd (σ.2 6) x3.toNatClampNeg 1)) 7 (upd (σ.2 7) x3.toNatClampNeg x1)) 8 (upd (σ.2 8) x3.toNatClampNeg x2))) rfl hg44 d_Mod_create_44 (fun H locs hI => ?_)
  refine lv_iconst (v := 0) hx hb d_Mod_create_45 (by decide) ?_
  refine lv_istore (lv' := [(4, .int 0), (0, .ref (a 0)), (1, .int x1), (2, .int x2), (3, .int x3)]) hx hb d_Mod_create_46 hl (by decide) rfl (fun ls hl => ?_)
  obtain ⟨q48, hq48, h⟩ := of_bind h
  refine l_Mod_create_B48 C _ _ _ _ _ _ hq48 (lv_sub hl [1, 4, 0] rfl) hI ?_
  intro _ ls H locs hl hI
  refine lv_aload_n hx hb d_Mod_create_84 rfl (lv_at hl 0 rfl) ?_
  refine lv_dup hx hb d_Mod_create_85 rfl ?_
  refine gf_Mod_88 C hI (v := q48.2.2.1 5) rfl d_Mod_create_86 ?_
  refine lv_aload_n hx hb d_Mod_create_89 rfl (lv_at hl 0 rfl) ?_
  refine lv_iload_n hx hb d_Mod_create_90 rfl (lv_at hl 1 rfl) ?_
  obtain ⟨p91, hp91, h⟩ := of_bind h
  refine rb_callI smok C (c_Mod_size hp91) cw_Mod_91 ⟨Nat.le_of_ble_eq_true rfl, Nat.le_of_ble_eq_true rfl⟩ ⟨rfl, rfl⟩ (q0 := 0) (ci := 4) rfl rfl hI ⟨Nat.zero_le _, Nat.zero_le _⟩ (As := [.int x3]) rfl hl.1 (rest := [.int (q48.2.2.1 5), .ref (a 0)]) (Nat.le_of_ble_eq_true rfl) rfl d_Mod_create_91 (fun H locs hI => ?_)
  refine lv_iadd hx hb d_Mod_create_94 ?_
  refine pf_Mod_88 C hI (σ' := (upd p91.2.1 5 ((q48.2.2.1 5) + p91.1), p91.2.2)) rfl d_Mod_create_95 (fun H locs hI => ?_)
  refine lv_iload_n hx hb d_Mod_create_98 rfl (lv_at hl 1 rfl) ?_
  replace h := Option.some.inj h
  subst h
  exact rb_retI C hr hI d_Mod_create_99
set_option maxHeartbeats 4000000 in
set_option maxRecDepth 100000 in
theorem c_Mod_create {l : Launch} {dC : Nat → ClassId} {dI : Nat → Nat → Nat} {a : Nat → Nat} {cI cZ : ClassId} {σ : St} {x1 x2 : Int32} {q : Int32 × St} (h : fMod_create σ x1 x2 = some q) : CI l (dC, dI) clA (tyM cI cZ) SXm (wM a cI cZ σ) (wM a cI cZ q.2) y_Mod_create b_Mod_create 5 (some .int) rm_Mod_create [.ref (a 0), .int x1, .int x2] q.1 := by
  refine CI_of (by decide) (Nat.le_of_ble_eq_true rfl) ?_
  intro pr e s m below meth c A ls C hr hl hI
  have hx := C.1
  have hb := C.2.1
  have hl : lv_has ls 5 [(0, .ref (a 0)), (1, .int x1), (2, .int x2)] := hl
  unfold fMod_create at h
  refine lv_iconst (v := 0) hx hb d_Mod_create_0 (by decide) ?_
  refine lv_istore_n (lv' := [(3, .int 0), (0, .ref (a 0)), (1, .int x1), (2, .int x2)]) hx hb d_Mod_create_1 rfl hl (by decide) rfl (fun ls hl => ?_)
  obtain ⟨q2, hq2, h⟩ := of_bind h
  refine l_Mod_create_B2 C _ _ _ _ _ _ hq2 (lv_sub hl [1, 2, 3, 0] rfl) hI ?_
  intro _ ls H locs hl hI
  exact j_Mod_create_J24 C hr h (lv_sub hl [0, 1, 2, 3] rfl) hI
theorem d_Mod_move_0 : decode b_Mod_move 0 = .ok (.aload_n 0, 1) := by decide +kernel
theorem d_Mod_move_1 : decode b_Mod_move 1 = .ok (.getfield 88, 3) := by decide +kernel
theorem d_Mod_move_4 : decode b_Mod_move 4 = .ok (.aload_n 0, 1) := by decide +kernel
theorem d_Mod_move_5 : decode b_Mod_move 5 = .ok (.iload_n 1, 1) := by decide +kernel
theorem d_Mod_move_6 : decode b_Mod_move 6 = .ok (.invokevirtual 91, 3) := by decide +kernel
theorem d_Mod_move_9 : decode b_Mod_move 9 = .ok (.iadd, 1) := by decide +kernel
theorem d_Mod_move_10 : decode b_Mod_move 10 = .ok (.aload_n 0, 1) := by decide +kernel
theorem d_Mod_move_11 : decode b_Mod_move 11 = .ok (.getfield 60, 3) := by decide +kernel
theorem d_Mod_move_14 : decode b_Mod_move 14 = .ok (.if_icmp .le 9, 3) := by decide +kernel
theorem d_Mod_move_17 : decode b_Mod_move 17 = .ok (.aload_n 0, 1) := by decide +kernel
theorem d_Mod_move_18 : decode b_Mod_move 18 = .ok (.iconst 3, 1) := by decide +kernel
theorem d_Mod_move_19 : decode b_Mod_move 19 = .ok (.putfield 53, 3) := by decide +kernel
theorem d_Mod_move_22 : decode b_Mod_move 22 = .ok (.return_, 1) := by decide +kernel
theorem d_Mod_move_23 : decode b_Mod_move 23 = .ok (.aload_n 0, 1) := by decide +kernel
theorem d_Mod_move_24 : decode b_Mod_move 24 = .ok (.getfield 28, 3) := by decide +kernel
theorem d_Mod_move_27 : decode b_Mod_move 27 = .ok (.iload_n 1, 1) := by decide +kernel
theorem d_Mod_move_28 : decode b_Mod_move 28 = .ok (.iconst 2, 1) := by decide +kernel
theorem d_Mod_move_29 : decode b_Mod_move 29 = .ok (.iastore, 1) := by decide +kernel
theorem d_Mod_move_30 : decode b_Mod_move 30 = .ok (.aload_n 0, 1) := by decide +kernel
theorem d_Mod_move_31 : decode b_Mod_move 31 = .ok (.getfield 43, 3) := by decide +kernel
theorem d_Mod_move_34 : decode b_Mod_move 34 = .ok (.aload_n 0, 1) := by decide +kernel
theorem d_Mod_move_35 : decode b_Mod_move 35 = .ok (.getfield 95, 3) := by decide +kernel
theorem d_Mod_move_38 : decode b_Mod_move 38 = .ok (.iload_n 1, 1) := by decide +kernel
theorem d_Mod_move_39 : decode b_Mod_move 39 = .ok (.iastore, 1) := by decide +kernel
theorem d_Mod_move_40 : decode b_Mod_move 40 = .ok (.aload_n 0, 1) := by decide +kernel
theorem d_Mod_move_41 : decode b_Mod_move 41 = .ok (.dup, 1) := by decide +kernel
theorem d_Mod_move_42 : decode b_Mod_move 42 = .ok (.getfield 95, 3) := by decide +kernel
theorem d_Mod_move_45 : decode b_Mod_move 45 = .ok (.iconst 1, 1) := by decide +kernel
theorem d_Mod_move_46 : decode b_Mod_move 46 = .ok (.iadd, 1) := by decide +kernel
theorem d_Mod_move_47 : decode b_Mod_move 47 = .ok (.putfield 95, 3) := by decide +kernel
theorem d_Mod_move_50 : decode b_Mod_move 50 = .ok (.aload_n 0, 1) := by decide +kernel
theorem d_Mod_move_51 : decode b_Mod_move 51 = .ok (.dup, 1) := by decide +kernel
theorem d_Mod_move_52 : decode b_Mod_move 52 = .ok (.getfield 88, 3) := by decide +kernel
theorem d_Mod_move_55 : decode b_Mod_move 55 = .ok (.aload_n 0, 1) := by decide +kernel
theorem d_Mod_move_56 : decode b_Mod_move 56 = .ok (.iload_n 1, 1) := by decide +kernel
theorem d_Mod_move_57 : decode b_Mod_move 57 = .ok (.invokevirtual 91, 3) := by decide +kernel
theorem d_Mod_move_60 : decode b_Mod_move 60 = .ok (.iadd, 1) := by decide +kernel
theorem d_Mod_move_61 : decode b_Mod_move 61 = .ok (.putfield 88, 3) := by decide +kernel
theorem d_Mod_move_64 : decode b_Mod_move 64 = .ok (.aload_n 0, 1) := by decide +kernel
theorem d_Mod_move_65 : decode b_Mod_move 65 = .ok (.dup, 1) := by decide +kernel
theorem d_Mod_move_66 : decode b_Mod_move 66 = .ok (.getfield 98, 3) := by decide +kernel
theorem d_Mod_move_69 : decode b_Mod_move 69 = .ok (.aload_n 0, 1) := by decide +kernel
theorem d_Mod_move_70 : decode b_Mod_move 70 = .ok (.iload_n 1, 1) := by decide +kernel
theorem d_Mod_move_71 : decode b_Mod_move 71 = .ok (.invokevirtual 91, 3) := by decide +kernel
theorem d_Mod_move_74 : decode b_Mod_move 74 = .ok (.iadd, 1) := by decide +kernel
theorem d_Mod_move_75 : decode b_Mod_move 75 = .ok (.putfield 98, 3) := by decide +kernel
theorem d_Mod_move_78 : decode b_Mod_move 78 = .ok (.return_, 1) := by decide +kernel
abbrev rm_Mod_move : Room := { frames := 1, cells := 0, slots := 0, locals := 21 }
set_option maxHeartbeats 4000000 in
set_option maxRecDepth 100000 in
theorem c_Mod_move {l : Launch} {dC : Nat → ClassId} {dI : Nat → Nat → Nat} {a : Nat → Nat} {cI cZ : ClassId} {σ : St} {x1 : Int32} {q : St} (h : fMod_move σ x1 = some q) : CV l (dC, dI) clA (tyM cI cZ) SXm (wM a cI cZ σ) (wM a cI cZ q) y_Mod_move b_Mod_move 2 none rm_Mod_move [.ref (a 0), .int x1] := by
  refine CV_of (by decide) (Nat.le_of_ble_eq_true rfl) ?_
  intro pr e s m below meth c A ls C hr hl hI
  have hx := C.1
  have hb := C.2.1
  have hl : lv_has ls 2 [(0, .ref (a 0)), (1, .int x1)] := hl
  unfold fMod_move at h
  refine lv_aload_n hx hb d_Mod_move_0 rfl (lv_at hl 0 rfl) ?_
  refine gf_Mod_88 C hI (v := σ.1 5) rfl d_Mod_move_1 ?_
  refine lv_aload_n hx hb d_Mod_move_4 rfl (lv_at hl 0 rfl) ?_
  refine lv_iload_n hx hb d_Mod_move_5 rfl (lv_at hl 1 rfl) ?_
  obtain ⟨p6, hp6, h⟩ := of_bind h
  refine rb_callI smok C (c_Mod_size hp6) cw_Mod_91 ⟨Nat.le_of_ble_eq_true rfl, Nat.le_of_ble_eq_true rfl⟩ ⟨rfl, rfl⟩ (q0 := 0) (ci := 4) rfl rfl hI ⟨Nat.zero_le _, Nat.zero_le _⟩ (As := [.int x1]) rfl hl.1 (rest := [.int (σ.1 5)]) (Nat.le_of_ble_eq_true rfl) rfl d_Mod_move_6 (fun H locs hI => ?_)
  refine lv_iadd hx hb d_Mod_move_9 ?_
  refine lv_aload_n hx hb d_Mod_move_10 rfl (lv_at hl 0 rfl) ?_
  refine gf_Mod_60 C hI (v := p6.2.1 0) rfl d_Mod_move_11 ?_
  refine lv_icmp_le (tgt := 23) hx hb d_Mod_move_14 (by decide) (fun hc => ?_) (fun hc => ?_)
  · replace h := of_pos hc h
    refine lv_aload_n hx hb d_Mod_move_23 rfl (lv_at hl 0 rfl) ?_
    refine gf_Mod_28 C hI d_Mod_move_24 ?_
    refine lv_iload_n hx hb d_Mod_move_27 rfl (lv_at hl 1 rfl) ?_
    refine lv_iconst (v := 2) hx hb d_Mod_move_28 (by decide) ?_
    obtain ⟨hg29, h⟩ := of_guard h
    refine as_M_6 C hI (σ' := (p6.2.1, va_up p6.2.2 6 (upd (p6.2.2 6) x1.toNatClampNeg 2))) rfl hg29 d_Mod_move_29 (fun H locs hI => ?_)
    refine lv_aload_n hx hb d_Mod_move_30 rfl (lv_at hl 0 rfl) ?_
    refine gf_Mod_43 C hI d_Mod_move_31 ?_
    refine lv_aload_n hx hb d_Mod_move_34 rfl (lv_at hl 0 rfl) ?_
    refine gf_Mod_95 C hI (v := p6.2.1 6) rfl d_Mod_move_35 ?_
    refine lv_iload_n hx hb d_Mod_move_38 rfl (lv_at hl 1 rfl) ?_
    obtain ⟨hg39, h⟩ := of_guard h
    refine as_M_11 C hI (σ' := (p6.2.1, va_up (va_up p6.2.2 6 (upd (p6.2.2 6) x1.toNatClampNeg 2)) 11 (upd (p6.2.2 11) (p6.2.1 6).toNatClampNeg x1))) rfl hg39 d_Mod_move_39 (fun H locs hI => ?_)
    refine lv_aload_n hx hb d_Mod_move_40 rfl (lv_at hl 0 rfl) ?_
    refine lv_dup hx hb d_Mod_move_41 rfl ?_
    refine gf_Mod_95 C hI (v := p6.2.1 6) rfl d_Mod_move_42 ?_
    refine lv_iconst (v := 1) hx hb d_Mod_move_45 (by decide) ?_
    refine lv_iadd hx hb d_Mod_move_46 ?_
    refine pf_Mod_95 C hI (σ' := (upd p6.2.1 6 ((p6.2.1 6) + 1), va_up (va_up p6.2.2 6 (upd (p6.2.2 6) x1.toNatClampNeg 2)) 11 (upd (p6.2.2 11) (p6.2.1 6).toNatClampNeg x1))) rfl d_Mod_move_47 (fun H locs hI => ?_)
    refine lv_aload_n hx hb d_Mod_move_50 rfl (lv_at hl 0 rfl) ?_
    refine lv_dup hx hb d_Mod_move_51 rfl ?_
    refine gf_Mod_88 C hI (v := p6.2.1 5) rfl d_Mod_move_52 ?_
    refine lv_aload_n hx hb d_Mod_move_55 rfl (lv_at hl 0 rfl) ?_
    refine lv_iload_n hx hb d_Mod_move_56 rfl (lv_at hl 1 rfl) ?_
    obtain ⟨p57, hp57, h⟩ := of_bind h
    refine rb_callI smok C (c_Mod_size hp57) cw_Mod_91 ⟨Nat.le_of_ble_eq_true rfl, Nat.le_of_ble_eq_true rfl⟩ ⟨rfl, rfl⟩ (q0 := 0) (ci := 4) rfl rfl hI ⟨Nat.zero_le _, Nat.zero_le _⟩ (As := [.int x1]) rfl hl.1 (rest := [.int (p6.2.1 5), .ref (a 0)]) (Nat.le_of_ble_eq_true rfl) rfl d_Mod_move_57 (fun H locs hI => ?_)
    refine lv_iadd hx hb d_Mod_move_60 ?_
    refine pf_Mod_88 C hI (σ' := (upd p57.2.1 5 ((p6.2.1 5) + p57.1), p57.2.2)) rfl d_Mod_move_61 (fun H locs hI => ?_)
    refine lv_aload_n hx hb d_Mod_move_64 rfl (lv_at hl 0 rfl) ?_
    refine lv_dup hx hb d_Mod_move_65 rfl ?_
    refine gf_Mod_98 C hI (v := p57.2.1 16) rfl d_Mod_move_66 ?_
    refine lv_aload_n hx hb d_Mod_move_69 rfl (lv_at hl 0 rfl) ?_
    refine lv_iload_n hx hb d_Mod_move_70 rfl (lv_at hl 1 rfl) ?_
    obtain ⟨p71, hp71, h⟩ := of_bind h
    refine rb_callI smok C (c_Mod_size hp71) cw_Mod_91 ⟨Nat.le_of_ble_eq_true rfl, Nat.le_of_ble_eq_true rfl⟩ ⟨rfl, rfl⟩ (q0 := 0) (ci := 4) rfl rfl hI ⟨Nat.zero_le _, Nat.zero_le _⟩ (As := [.int x1]) rfl hl.1 (rest := [.int (p57.2.1 16), .ref (a 0)]) (Nat.le_of_ble_eq_true rfl) rfl d_Mod_move_71 (fun H locs hI => ?_)
    refine lv_iadd hx hb d_Mod_move_74 ?_
    refine pf_Mod_98 C hI (σ' := (upd p71.2.1 16 ((p57.2.1 16) + p71.1), p71.2.2)) rfl d_Mod_move_75 (fun H locs hI => ?_)
    replace h := Option.some.inj h
    subst h
    exact rb_retV C hr hI d_Mod_move_78
  · replace h := of_neg hc h
    refine lv_aload_n hx hb d_Mod_move_17 rfl (lv_at hl 0 rfl) ?_
    refine lv_iconst (v := 3) hx hb d_Mod_move_18 (by decide) ?_
    refine pf_Mod_53 C hI (σ' := (upd p6.2.1 12 3, p6.2.2)) rfl d_Mod_move_19 (fun H locs hI => ?_)
    replace h := Option.some.inj h
    subst h
    exact rb_retV C hr hI d_Mod_move_22
theorem d_Mod_read_0 : decode b_Mod_read 0 = .ok (.aload_n 0, 1) := by decide +kernel
theorem d_Mod_read_1 : decode b_Mod_read 1 = .ok (.getfield 37, 3) := by decide +kernel
theorem d_Mod_read_4 : decode b_Mod_read 4 = .ok (.iload_n 1, 1) := by decide +kernel
theorem d_Mod_read_5 : decode b_Mod_read 5 = .ok (.iaload, 1) := by decide +kernel
theorem d_Mod_read_6 : decode b_Mod_read 6 = .ok (.iconst (-1), 1) := by decide +kernel
theorem d_Mod_read_7 : decode b_Mod_read 7 = .ok (.if_icmp .eq 28, 3) := by decide +kernel
theorem d_Mod_read_10 : decode b_Mod_read 10 = .ok (.aload_n 0, 1) := by decide +kernel
theorem d_Mod_read_11 : decode b_Mod_read 11 = .ok (.getfield 28, 3) := by decide +kernel
theorem d_Mod_read_14 : decode b_Mod_read 14 = .ok (.aload_n 0, 1) := by decide +kernel
theorem d_Mod_read_15 : decode b_Mod_read 15 = .ok (.getfield 37, 3) := by decide +kernel
theorem d_Mod_read_18 : decode b_Mod_read 18 = .ok (.iload_n 1, 1) := by decide +kernel
theorem d_Mod_read_19 : decode b_Mod_read 19 = .ok (.iaload, 1) := by decide +kernel
theorem d_Mod_read_20 : decode b_Mod_read 20 = .ok (.iaload, 1) := by decide +kernel
theorem d_Mod_read_21 : decode b_Mod_read 21 = .ok (.iconst 3, 1) := by decide +kernel
theorem d_Mod_read_22 : decode b_Mod_read 22 = .ok (.if_icmp .ne 13, 3) := by decide +kernel
theorem d_Mod_read_25 : decode b_Mod_read 25 = .ok (.aload_n 0, 1) := by decide +kernel
theorem d_Mod_read_26 : decode b_Mod_read 26 = .ok (.aload_n 0, 1) := by decide +kernel
theorem d_Mod_read_27 : decode b_Mod_read 27 = .ok (.getfield 37, 3) := by decide +kernel
theorem d_Mod_read_30 : decode b_Mod_read 30 = .ok (.iload_n 1, 1) := by decide +kernel
theorem d_Mod_read_31 : decode b_Mod_read 31 = .ok (.iaload, 1) := by decide +kernel
theorem d_Mod_read_32 : decode b_Mod_read 32 = .ok (.invokevirtual 101, 3) := by decide +kernel
theorem d_Mod_read_35 : decode b_Mod_read 35 = .ok (.aload_n 0, 1) := by decide +kernel
theorem d_Mod_read_36 : decode b_Mod_read 36 = .ok (.getfield 53, 3) := by decide +kernel
theorem d_Mod_read_39 : decode b_Mod_read 39 = .ok (.ifCond .ne 7, 3) := by decide +kernel
theorem d_Mod_read_42 : decode b_Mod_read 42 = .ok (.iconst 1, 1) := by decide +kernel
theorem d_Mod_read_43 : decode b_Mod_read 43 = .ok (.goto 4, 3) := by decide +kernel
theorem d_Mod_read_46 : decode b_Mod_read 46 = .ok (.iconst 0, 1) := by decide +kernel
theorem d_Mod_read_47 : decode b_Mod_read 47 = .ok (.ireturn, 1) := by decide +kernel
abbrev rm_Mod_read : Room := { frames := 2, cells := 0, slots := 0, locals := 42 }
set_option maxHeartbeats 4000000 in
set_option maxRecDepth 100000 in
theorem c_Mod_read {l : Launch} {dC : Nat → ClassId} {dI : Nat → Nat → Nat} {a : Nat → Nat} {cI cZ : ClassId} {σ : St} {x1 : Int32} {q : Int32 × St} (h : fMod_read σ x1 = some q) : CI l (dC, dI) clA (tyM cI cZ) SXm (wM a cI cZ σ) (wM a cI cZ q.2) y_Mod_read b_Mod_read 2 (some .boolean) rm_Mod_read [.ref (a 0), .int x1] q.1 := by
  refine CI_of (by decide) (Nat.le_of_ble_eq_true rfl) ?_
  intro pr e s m below meth c A ls C hr hl hI
  have hx := C.1
  have hb := C.2.1
  have hl : lv_has ls 2 [(0, .ref (a 0)), (1, .int x1)] := hl
  unfold fMod_read at h
  refine lv_aload_n hx hb d_Mod_read_0 rfl (lv_at hl 0 rfl) ?_
  refine gf_Mod_37 C hI d_Mod_read_1 ?_
  refine lv_iload_n hx hb d_Mod_read_4 rfl (lv_at hl 1 rfl) ?_
  obtain ⟨hg5, h⟩ := of_guard h
  refine al_M_9 C hI (f := σ.2 9) rfl hg5 d_Mod_read_5 ?_
  refine lv_iconst (v := (-1)) hx hb d_Mod_read_6 (by decide) ?_
  refine lv_icmp_eq (tgt := 35) hx hb d_Mod_read_7 (by decide) (fun hc => ?_) (fun hc => ?_)
  · replace h := of_pos hc h
    refine lv_aload_n hx hb d_Mod_read_35 rfl (lv_at hl 0 rfl) ?_
    refine gf_Mod_53 C hI (v := σ.1 12) rfl d_Mod_read_36 ?_
    refine lv_if_ne (tgt := 46) hx hb d_Mod_read_39 (by decide) (fun hc => ?_) (fun hc => ?_)
    · replace h := of_neg hc h
      refine lv_iconst (v := 0) hx hb d_Mod_read_46 (by decide) ?_
      replace h := Option.some.inj h
      subst h
      exact rb_retZ C hr (Or.inl rfl) hI d_Mod_read_47
    · replace h := of_pos hc h
      refine lv_iconst (v := 1) hx hb d_Mod_read_42 (by decide) ?_
      refine lv_goto (tgt := 47) hx hb d_Mod_read_43 (by decide) ?_
      replace h := Option.some.inj h
      subst h
      exact rb_retZ C hr (Or.inr rfl) hI d_Mod_read_47
  · replace h := of_neg hc h
    refine lv_aload_n hx hb d_Mod_read_10 rfl (lv_at hl 0 rfl) ?_
    refine gf_Mod_28 C hI d_Mod_read_11 ?_
    refine lv_aload_n hx hb d_Mod_read_14 rfl (lv_at hl 0 rfl) ?_
    refine gf_Mod_37 C hI d_Mod_read_15 ?_
    refine lv_iload_n hx hb d_Mod_read_18 rfl (lv_at hl 1 rfl) ?_
    obtain ⟨hg19, h⟩ := of_guard h
    refine al_M_9 C hI (f := σ.2 9) rfl hg19 d_Mod_read_19 ?_
    obtain ⟨hg20, h⟩ := of_guard h
    refine al_M_6 C hI (f := σ.2 6) rfl hg20 d_Mod_read_20 ?_
    refine lv_iconst (v := 3) hx hb d_Mod_read_21 (by decide) ?_
    refine lv_icmp_ne (tgt := 35) hx hb d_Mod_read_22 (by decide) (fun hc => ?_) (fun hc => ?_)
    · replace h := of_neg hc h
      refine lv_aload_n hx hb d_Mod_read_35 rfl (lv_at hl 0 rfl) ?_
      refine gf_Mod_53 C hI (v := σ.1 12) rfl d_Mod_read_36 ?_
      refine lv_if_ne (tgt := 46) hx hb d_Mod_read_39 (by decide) (fun hc => ?_) (fun hc => ?_)
      · replace h := of_neg hc h
        refine lv_iconst (v := 0) hx hb d_Mod_read_46 (by decide) ?_
        replace h := Option.some.inj h
        subst h
        exact rb_retZ C hr (Or.inl rfl) hI d_Mod_read_47
      · replace h := of_pos hc h
        refine lv_iconst (v := 1) hx hb d_Mod_read_42 (by decide) ?_
        refine lv_goto (tgt := 47) hx hb d_Mod_read_43 (by decide) ?_
        replace h := Option.some.inj h
        subst h
        exact rb_retZ C hr (Or.inr rfl) hI d_Mod_read_47
    · replace h := of_pos hc h
      refine lv_aload_n hx hb d_Mod_read_25 rfl (lv_at hl 0 rfl) ?_
      refine lv_aload_n hx hb d_Mod_read_26 rfl (lv_at hl 0 rfl) ?_
      refine gf_Mod_37 C hI d_Mod_read_27 ?_
      refine lv_iload_n hx hb d_Mod_read_30 rfl (lv_at hl 1 rfl) ?_
      obtain ⟨hg31, h⟩ := of_guard h
      refine al_M_9 C hI (f := σ.2 9) rfl hg31 d_Mod_read_31 ?_
      obtain ⟨p32, hp32, h⟩ := of_bind h
      refine rb_callV smok C (c_Mod_move hp32) cw_Mod_101 ⟨Nat.le_of_ble_eq_true rfl, Nat.le_of_ble_eq_true rfl⟩ ⟨rfl, rfl⟩ (q0 := 0) (ci := 4) rfl rfl hI ⟨Nat.zero_le _, Nat.zero_le _⟩ (As := [.int ((σ.2 9) x1.toNatClampNeg)]) rfl hl.1 (rest := []) (Nat.le_of_ble_eq_true rfl) rfl d_Mod_read_32 (fun H locs hI => ?_)
      refine lv_aload_n hx hb d_Mod_read_35 rfl (lv_at hl 0 rfl) ?_
      refine gf_Mod_53 C hI (v := p32.1 12) rfl d_Mod_read_36 ?_
      refine lv_if_ne (tgt := 46) hx hb d_Mod_read_39 (by decide) (fun hc => ?_) (fun hc => ?_)
      · replace h := of_neg hc h
        refine lv_iconst (v := 0) hx hb d_Mod_read_46 (by decide) ?_
        replace h := Option.some.inj h
        subst h
        exact rb_retZ C hr (Or.inl rfl) hI d_Mod_read_47
      · replace h := of_pos hc h
        refine lv_iconst (v := 1) hx hb d_Mod_read_42 (by decide) ?_
        refine lv_goto (tgt := 47) hx hb d_Mod_read_43 (by decide) ?_
        replace h := Option.some.inj h
        subst h
        exact rb_retZ C hr (Or.inr rfl) hI d_Mod_read_47
theorem d_Mod_rowDone_0 : decode b_Mod_rowDone 0 = .ok (.aload_n 0, 1) := by decide +kernel
theorem d_Mod_rowDone_1 : decode b_Mod_rowDone 1 = .ok (.getfield 105, 3) := by decide +kernel
theorem d_Mod_rowDone_4 : decode b_Mod_rowDone 4 = .ok (.aload_n 0, 1) := by decide +kernel
theorem d_Mod_rowDone_5 : decode b_Mod_rowDone 5 = .ok (.getfield 95, 3) := by decide +kernel
theorem d_Mod_rowDone_8 : decode b_Mod_rowDone 8 = .ok (.if_icmp .ne 7, 3) := by decide +kernel
theorem d_Mod_rowDone_11 : decode b_Mod_rowDone 11 = .ok (.iconst 1, 1) := by decide +kernel
theorem d_Mod_rowDone_12 : decode b_Mod_rowDone 12 = .ok (.goto 4, 3) := by decide +kernel
theorem d_Mod_rowDone_15 : decode b_Mod_rowDone 15 = .ok (.iconst 0, 1) := by decide +kernel
theorem d_Mod_rowDone_16 : decode b_Mod_rowDone 16 = .ok (.ireturn, 1) := by decide +kernel
abbrev rm_Mod_rowDone : Room := { frames := 0, cells := 0, slots := 0, locals := 0 }
set_option maxHeartbeats 4000000 in
set_option maxRecDepth 100000 in
theorem c_Mod_rowDone {l : Launch} {dC : Nat → ClassId} {dI : Nat → Nat → Nat} {a : Nat → Nat} {cI cZ : ClassId} {σ : St} {q : Int32 × St} (h : fMod_rowDone σ = some q) : CI l (dC, dI) clA (tyM cI cZ) SXm (wM a cI cZ σ) (wM a cI cZ q.2) y_Mod_rowDone b_Mod_rowDone 1 (some .boolean) rm_Mod_rowDone [.ref (a 0)] q.1 := by
  refine CI_of (by decide) (Nat.le_of_ble_eq_true rfl) ?_
  intro pr e s m below meth c A ls C hr hl hI
  have hx := C.1
  have hb := C.2.1
  have hl : lv_has ls 1 [(0, .ref (a 0))] := hl
  unfold fMod_rowDone at h
  refine lv_aload_n hx hb d_Mod_rowDone_0 rfl (lv_at hl 0 rfl) ?_
  refine gf_Mod_105 C hI (v := σ.1 7) rfl d_Mod_rowDone_1 ?_
  refine lv_aload_n hx hb d_Mod_rowDone_4 rfl (lv_at hl 0 rfl) ?_
  refine gf_Mod_95 C hI (v := σ.1 6) rfl d_Mod_rowDone_5 ?_
  refine lv_icmp_ne (tgt := 15) hx hb d_Mod_rowDone_8 (by decide) (fun hc => ?_) (fun hc => ?_)
  · replace h := of_neg hc h
    refine lv_iconst (v := 0) hx hb d_Mod_rowDone_15 (by decide) ?_
    replace h := Option.some.inj h
    subst h
    exact rb_retZ C hr (Or.inl rfl) hI d_Mod_rowDone_16
  · replace h := of_pos hc h
    refine lv_iconst (v := 1) hx hb d_Mod_rowDone_11 (by decide) ?_
    refine lv_goto (tgt := 16) hx hb d_Mod_rowDone_12 (by decide) ?_
    replace h := Option.some.inj h
    subst h
    exact rb_retZ C hr (Or.inr rfl) hI d_Mod_rowDone_16
theorem d_Mod_scanCell_0 : decode b_Mod_scanCell 0 = .ok (.aload_n 0, 1) := by decide +kernel
theorem d_Mod_scanCell_1 : decode b_Mod_scanCell 1 = .ok (.getfield 43, 3) := by decide +kernel
theorem d_Mod_scanCell_4 : decode b_Mod_scanCell 4 = .ok (.aload_n 0, 1) := by decide +kernel
theorem d_Mod_scanCell_5 : decode b_Mod_scanCell 5 = .ok (.getfield 105, 3) := by decide +kernel
theorem d_Mod_scanCell_8 : decode b_Mod_scanCell 8 = .ok (.iaload, 1) := by decide +kernel
theorem d_Mod_scanCell_9 : decode b_Mod_scanCell 9 = .ok (.istore_n 1, 1) := by decide +kernel
theorem d_Mod_scanCell_10 : decode b_Mod_scanCell 10 = .ok (.aload_n 0, 1) := by decide +kernel
theorem d_Mod_scanCell_11 : decode b_Mod_scanCell 11 = .ok (.getfield 108, 3) := by decide +kernel
theorem d_Mod_scanCell_14 : decode b_Mod_scanCell 14 = .ok (.istore_n 2, 1) := by decide +kernel
theorem d_Mod_scanCell_15 : decode b_Mod_scanCell 15 = .ok (.aload_n 0, 1) := by decide +kernel
theorem d_Mod_scanCell_16 : decode b_Mod_scanCell 16 = .ok (.dup, 1) := by decide +kernel
theorem d_Mod_scanCell_17 : decode b_Mod_scanCell 17 = .ok (.getfield 98, 3) := by decide +kernel
theorem d_Mod_scanCell_20 : decode b_Mod_scanCell 20 = .ok (.iconst 1, 1) := by decide +kernel
theorem d_Mod_scanCell_21 : decode b_Mod_scanCell 21 = .ok (.iadd, 1) := by decide +kernel
theorem d_Mod_scanCell_22 : decode b_Mod_scanCell 22 = .ok (.putfield 98, 3) := by decide +kernel
theorem d_Mod_scanCell_25 : decode b_Mod_scanCell 25 = .ok (.aload_n 0, 1) := by decide +kernel
theorem d_Mod_scanCell_26 : decode b_Mod_scanCell 26 = .ok (.dup, 1) := by decide +kernel
theorem d_Mod_scanCell_27 : decode b_Mod_scanCell 27 = .ok (.getfield 108, 3) := by decide +kernel
theorem d_Mod_scanCell_30 : decode b_Mod_scanCell 30 = .ok (.iconst 1, 1) := by decide +kernel
theorem d_Mod_scanCell_31 : decode b_Mod_scanCell 31 = .ok (.iadd, 1) := by decide +kernel
theorem d_Mod_scanCell_32 : decode b_Mod_scanCell 32 = .ok (.putfield 108, 3) := by decide +kernel
theorem d_Mod_scanCell_35 : decode b_Mod_scanCell 35 = .ok (.aload_n 0, 1) := by decide +kernel
theorem d_Mod_scanCell_36 : decode b_Mod_scanCell 36 = .ok (.getfield 108, 3) := by decide +kernel
theorem d_Mod_scanCell_39 : decode b_Mod_scanCell 39 = .ok (.aload_n 0, 1) := by decide +kernel
theorem d_Mod_scanCell_40 : decode b_Mod_scanCell 40 = .ok (.iload_n 1, 1) := by decide +kernel
theorem d_Mod_scanCell_41 : decode b_Mod_scanCell 41 = .ok (.invokevirtual 91, 3) := by decide +kernel
theorem d_Mod_scanCell_44 : decode b_Mod_scanCell 44 = .ok (.if_icmp .ne 18, 3) := by decide +kernel
theorem d_Mod_scanCell_47 : decode b_Mod_scanCell 47 = .ok (.aload_n 0, 1) := by decide +kernel
theorem d_Mod_scanCell_48 : decode b_Mod_scanCell 48 = .ok (.dup, 1) := by decide +kernel
theorem d_Mod_scanCell_49 : decode b_Mod_scanCell 49 = .ok (.getfield 105, 3) := by decide +kernel
theorem d_Mod_scanCell_52 : decode b_Mod_scanCell 52 = .ok (.iconst 1, 1) := by decide +kernel
theorem d_Mod_scanCell_53 : decode b_Mod_scanCell 53 = .ok (.iadd, 1) := by decide +kernel
theorem d_Mod_scanCell_54 : decode b_Mod_scanCell 54 = .ok (.putfield 105, 3) := by decide +kernel
theorem d_Mod_scanCell_57 : decode b_Mod_scanCell 57 = .ok (.aload_n 0, 1) := by decide +kernel
theorem d_Mod_scanCell_58 : decode b_Mod_scanCell 58 = .ok (.iconst 0, 1) := by decide +kernel
theorem d_Mod_scanCell_59 : decode b_Mod_scanCell 59 = .ok (.putfield 108, 3) := by decide +kernel
theorem d_Mod_scanCell_62 : decode b_Mod_scanCell 62 = .ok (.iload_n 2, 1) := by decide +kernel
theorem d_Mod_scanCell_63 : decode b_Mod_scanCell 63 = .ok (.iconst 1, 1) := by decide +kernel
theorem d_Mod_scanCell_64 : decode b_Mod_scanCell 64 = .ok (.if_icmp .lt 24, 3) := by decide +kernel
theorem d_Mod_scanCell_67 : decode b_Mod_scanCell 67 = .ok (.iload_n 2, 1) := by decide +kernel
theorem d_Mod_scanCell_68 : decode b_Mod_scanCell 68 = .ok (.aload_n 0, 1) := by decide +kernel
theorem d_Mod_scanCell_69 : decode b_Mod_scanCell 69 = .ok (.iload_n 1, 1) := by decide +kernel
theorem d_Mod_scanCell_70 : decode b_Mod_scanCell 70 = .ok (.invokevirtual 111, 3) := by decide +kernel
theorem d_Mod_scanCell_73 : decode b_Mod_scanCell 73 = .ok (.if_icmp .gt 15, 3) := by decide +kernel
theorem d_Mod_scanCell_76 : decode b_Mod_scanCell 76 = .ok (.aload_n 0, 1) := by decide +kernel
theorem d_Mod_scanCell_77 : decode b_Mod_scanCell 77 = .ok (.iconst 4, 1) := by decide +kernel
theorem d_Mod_scanCell_78 : decode b_Mod_scanCell 78 = .ok (.iload_n 1, 1) := by decide +kernel
theorem d_Mod_scanCell_79 : decode b_Mod_scanCell 79 = .ok (.imul, 1) := by decide +kernel
theorem d_Mod_scanCell_80 : decode b_Mod_scanCell 80 = .ok (.iload_n 2, 1) := by decide +kernel
theorem d_Mod_scanCell_81 : decode b_Mod_scanCell 81 = .ok (.iadd, 1) := by decide +kernel
theorem d_Mod_scanCell_82 : decode b_Mod_scanCell 82 = .ok (.iconst 1, 1) := by decide +kernel
theorem d_Mod_scanCell_83 : decode b_Mod_scanCell 83 = .ok (.isub, 1) := by decide +kernel
theorem d_Mod_scanCell_84 : decode b_Mod_scanCell 84 = .ok (.invokevirtual 114, 3) := by decide +kernel
theorem d_Mod_scanCell_87 : decode b_Mod_scanCell 87 = .ok (.pop, 1) := by decide +kernel
theorem d_Mod_scanCell_88 : decode b_Mod_scanCell 88 = .ok (.return_, 1) := by decide +kernel
abbrev rm_Mod_scanCell : Room := { frames := 3, cells := 0, slots := 0, locals := 63 }
set_option maxHeartbeats 4000000 in
set_option maxRecDepth 100000 in
theorem j_Mod_scanCell_J62 {l : Launch} {dC : Nat → ClassId} {dI : Nat → Nat → Nat} {a : Nat → Nat} {cI cZ : ClassId} {pr : Program} {e : Env} {s : State} {m : MethodId} {args : Array Value} {below : List Frame} {meth : Method} {c : Code} {A : Nat → Prop} {ls : Array Slot} {H : Heap} {locs : List Loc} {σ : St} {x1 x2 : Int32} {q : St} (C : Cx (dC, dI) clA (tyM cI cZ) SXm pr s m args meth c b_Mod_scanCell 3 y_Mod_scanCell.cls A) (hr : meth.sig.returnType = none) (h : fMod_scanCell_J62 σ x1 x2 = some q) (hl : lv_has ls 3 [(0, .ref (a 0)), (1, .int x1), (2, .int x2)]) (hI : Wi (dC, dI) clA (wM a cI cZ σ) s A H locs)  : W pr l e rm_Mod_scanCell s m args below meth c H locs 0 0 (MQ below (rb_Qv (dC, dI) clA (tyM cI cZ) (wM a cI cZ q) A) args s 0 0 A) (F0 m 62 ls []) := by
  have hx := C.1
  have hb := C.2.1
  unfold fMod_scanCell_J62 at h
  refine lv_iload_n hx hb d_Mod_scanCell_62 rfl (lv_at hl 2 rfl) ?_
  refine lv_iconst (v := 1) hx hb d_Mod_scanCell_63 (by decide) ?_
  refine lv_icmp_lt (tgt := 88) hx hb d_Mod_scanCell_64 (by decide) (fun hc => ?_) (fun hc => ?_)
  · replace h := of_pos hc h
    replace h := Option.some.inj h
    subst h
    exact rb_retV C hr hI d_Mod_scanCell_88
  · replace h := of_neg hc h
    refine lv_iload_n hx hb d_Mod_scanCell_67 rfl (lv_at hl 2 rfl) ?_
    refine lv_aload_n hx hb d_Mod_scanCell_68 rfl (lv_at hl 0 rfl) ?_
    refine lv_iload_n hx hb d_Mod_scanCell_69 rfl (lv_at hl 1 rfl) ?_
    obtain ⟨p70, hp70, h⟩ := of_bind h
    refine rb_callI smok C (c_Mod_manyRefs hp70) cw_Mod_111 ⟨Nat.le_of_ble_eq_true rfl, Nat.le_of_ble_eq_true rfl⟩ ⟨rfl, rfl⟩ (q0 := 0) (ci := 4) rfl rfl hI ⟨Nat.zero_le _, Nat.zero_le _⟩ (As := [.int x1]) rfl hl.1 (rest := [.int x2]) (Nat.le_of_ble_eq_true rfl) rfl d_Mod_scanCell_70 (fun H locs hI => ?_)
    refine lv_icmp_gt (tgt := 88) hx hb d_Mod_scanCell_73 (by decide) (fun hc => ?_) (fun hc => ?_)
    · replace h := of_pos hc h
      replace h := Option.some.inj h
      subst h
      exact rb_retV C hr hI d_Mod_scanCell_88
    · replace h := of_neg hc h
      refine lv_aload_n hx hb d_Mod_scanCell_76 rfl (lv_at hl 0 rfl) ?_
      refine lv_iconst (v := 4) hx hb d_Mod_scanCell_77 (by decide) ?_
      refine lv_iload_n hx hb d_Mod_scanCell_78 rfl (lv_at hl 1 rfl) ?_
      refine lv_imul hx hb d_Mod_scanCell_79 ?_
      refine lv_iload_n hx hb d_Mod_scanCell_80 rfl (lv_at hl 2 rfl) ?_
      refine lv_iadd hx hb d_Mod_scanCell_81 ?_
      refine lv_iconst (v := 1) hx hb d_Mod_scanCell_82 (by decide) ?_
      refine lv_isub hx hb d_Mod_scanCell_83 ?_
      obtain ⟨p84, hp84, h⟩ := of_bind h
      refine rb_callI smok C (c_Mod_read hp84) cw_Mod_114 ⟨Nat.le_of_ble_eq_true rfl, Nat.le_of_ble_eq_true rfl⟩ ⟨rfl, rfl⟩ (q0 := 0) (ci := 4) rfl rfl hI ⟨Nat.zero_le _, Nat.zero_le _⟩ (As := [.int ((((4 : Int32) * x1) + x2) - 1)]) rfl hl.1 (rest := []) (Nat.le_of_ble_eq_true rfl) rfl d_Mod_scanCell_84 (fun H locs hI => ?_)
      refine lv_pop hx hb d_Mod_scanCell_87 rfl ?_
      replace h := Option.some.inj h
      subst h
      exact rb_retV C hr hI d_Mod_scanCell_88
set_option maxHeartbeats 4000000 in
set_option maxRecDepth 100000 in
theorem c_Mod_scanCell {l : Launch} {dC : Nat → ClassId} {dI : Nat → Nat → Nat} {a : Nat → Nat} {cI cZ : ClassId} {σ : St} {q : St} (h : fMod_scanCell σ = some q) : CV l (dC, dI) clA (tyM cI cZ) SXm (wM a cI cZ σ) (wM a cI cZ q) y_Mod_scanCell b_Mod_scanCell 3 none rm_Mod_scanCell [.ref (a 0)] := by
  refine CV_of (by decide) (Nat.le_of_ble_eq_true rfl) ?_
  intro pr e s m below meth c A ls C hr hl hI
  have hx := C.1
  have hb := C.2.1
  have hl : lv_has ls 3 [(0, .ref (a 0))] := hl
  unfold fMod_scanCell at h
  refine lv_aload_n hx hb d_Mod_scanCell_0 rfl (lv_at hl 0 rfl) ?_
  refine gf_Mod_43 C hI d_Mod_scanCell_1 ?_
  refine lv_aload_n hx hb d_Mod_scanCell_4 rfl (lv_at hl 0 rfl) ?_
  refine gf_Mod_105 C hI (v := σ.1 7) rfl d_Mod_scanCell_5 ?_
  obtain ⟨hg8, h⟩ := of_guard h
  refine al_M_11 C hI (f := σ.2 11) rfl hg8 d_Mod_scanCell_8 ?_
  refine lv_istore_n (lv' := [(1, .int ((σ.2 11) (σ.1 7).toNatClampNeg)), (0, .ref (a 0))]) hx hb d_Mod_scanCell_9 rfl hl (by decide) rfl (fun ls hl => ?_)
  refine lv_aload_n hx hb d_Mod_scanCell_10 rfl (lv_at hl 1 rfl) ?_
  refine gf_Mod_108 C hI (v := σ.1 8) rfl d_Mod_scanCell_11 ?_
  refine lv_istore_n (lv' := [(2, .int (σ.1 8)), (1, .int ((σ.2 11) (σ.1 7).toNatClampNeg)), (0, .ref (a 0))]) hx hb d_Mod_scanCell_14 rfl hl (by decide) rfl (fun ls hl => ?_)
  refine lv_aload_n hx hb d_Mod_scanCell_15 rfl (lv_at hl 2 rfl) ?_
  refine lv_dup hx hb d_Mod_scanCell_16 rfl ?_
  refine gf_Mod_98 C hI (v := σ.1 16) rfl d_Mod_scanCell_17 ?_
  refine lv_iconst (v := 1) hx hb d_Mod_scanCell_20 (by decide) ?_
  refine lv_iadd hx hb d_Mod_scanCell_21 ?_
  refine pf_Mod_98 C hI (σ' := (upd σ.1 16 ((σ.1 16) + 1), σ.2)) rfl d_Mod_scanCell_22 (fun H locs hI => ?_)
  refine lv_aload_n hx hb d_Mod_scanCell_25 rfl (lv_at hl 2 rfl) ?_
  refine lv_dup hx hb d_Mod_scanCell_26 rfl ?_
  refine gf_Mod_108 C hI (v := σ.1 8) rfl d_Mod_scanCell_27 ?_
  refine lv_iconst (v := 1) hx hb d_Mod_scanCell_30 (by decide) ?_
  refine lv_iadd hx hb d_Mod_scanCell_31 ?_
  refine pf_Mod_108 C hI (σ' := (upd (upd σ.1 16 ((σ.1 16) + 1)) 8 ((σ.1 8) + 1), σ.2)) rfl d_Mod_scanCell_32 (fun H locs hI => ?_)
  refine lv_aload_n hx hb d_Mod_scanCell_35 rfl (lv_at hl 2 rfl) ?_
  refine gf_Mod_108 C hI (v := (σ.1 8) + 1) rfl d_Mod_scanCell_36 ?_
  refine lv_aload_n hx hb d_Mod_scanCell_39 rfl (lv_at hl 2 rfl) ?_
  refine lv_iload_n hx hb d_Mod_scanCell_40 rfl (lv_at hl 1 rfl) ?_
  obtain ⟨p41, hp41, h⟩ := of_bind h
  refine rb_callI smok C (c_Mod_size hp41) cw_Mod_91 ⟨Nat.le_of_ble_eq_true rfl, Nat.le_of_ble_eq_true rfl⟩ ⟨rfl, rfl⟩ (q0 := 0) (ci := 4) rfl rfl hI ⟨Nat.zero_le _, Nat.zero_le _⟩ (As := [.int ((σ.2 11) (σ.1 7).toNatClampNeg)]) rfl hl.1 (rest := [.int ((σ.1 8) + 1)]) (Nat.le_of_ble_eq_true rfl) rfl d_Mod_scanCell_41 (fun H locs hI => ?_)
  refine lv_icmp_ne (tgt := 62) hx hb d_Mod_scanCell_44 (by decide) (fun hc => ?_) (fun hc => ?_)
  · replace h := of_neg hc h
    exact j_Mod_scanCell_J62 C hr h (lv_sub hl [2, 1, 0] rfl) hI
  · replace h := of_pos hc h
    refine lv_aload_n hx hb d_Mod_scanCell_47 rfl (lv_at hl 2 rfl) ?_
    refine lv_dup hx hb d_Mod_scanCell_48 rfl ?_
    refine gf_Mod_105 C hI (v := p41.2.1 7) rfl d_Mod_scanCell_49 ?_
    refine lv_iconst (v := 1) hx hb d_Mod_scanCell_52 (by decide) ?_
    refine lv_iadd hx hb d_Mod_scanCell_53 ?_
    refine pf_Mod_105 C hI (σ' := (upd p41.2.1 7 ((p41.2.1 7) + 1), p41.2.2)) rfl d_Mod_scanCell_54 (fun H locs hI => ?_)
    refine lv_aload_n hx hb d_Mod_scanCell_57 rfl (lv_at hl 2 rfl) ?_
    refine lv_iconst (v := 0) hx hb d_Mod_scanCell_58 (by decide) ?_
    refine pf_Mod_108 C hI (σ' := (upd (upd p41.2.1 7 ((p41.2.1 7) + 1)) 8 0, p41.2.2)) rfl d_Mod_scanCell_59 (fun H locs hI => ?_)
    exact j_Mod_scanCell_J62 C hr h (lv_sub hl [2, 1, 0] rfl) hI
theorem d_Mod_flip_0 : decode b_Mod_flip 0 = .ok (.iconst 0, 1) := by decide +kernel
theorem d_Mod_flip_1 : decode b_Mod_flip 1 = .ok (.istore_n 1, 1) := by decide +kernel
theorem d_Mod_flip_2 : decode b_Mod_flip 2 = .ok (.iload_n 1, 1) := by decide +kernel
theorem d_Mod_flip_3 : decode b_Mod_flip 3 = .ok (.sipush 240, 3) := by decide +kernel
theorem d_Mod_flip_6 : decode b_Mod_flip 6 = .ok (.if_icmp .ge 45, 3) := by decide +kernel
theorem d_Mod_flip_9 : decode b_Mod_flip 9 = .ok (.aload_n 0, 1) := by decide +kernel
theorem d_Mod_flip_10 : decode b_Mod_flip 10 = .ok (.getfield 28, 3) := by decide +kernel
theorem d_Mod_flip_13 : decode b_Mod_flip 13 = .ok (.iload_n 1, 1) := by decide +kernel
theorem d_Mod_flip_14 : decode b_Mod_flip 14 = .ok (.iaload, 1) := by decide +kernel
theorem d_Mod_flip_15 : decode b_Mod_flip 15 = .ok (.iconst 3, 1) := by decide +kernel
theorem d_Mod_flip_16 : decode b_Mod_flip 16 = .ok (.if_icmp .ne 13, 3) := by decide +kernel
theorem d_Mod_flip_19 : decode b_Mod_flip 19 = .ok (.aload_n 0, 1) := by decide +kernel
theorem d_Mod_flip_20 : decode b_Mod_flip 20 = .ok (.getfield 28, 3) := by decide +kernel
theorem d_Mod_flip_23 : decode b_Mod_flip 23 = .ok (.iload_n 1, 1) := by decide +kernel
theorem d_Mod_flip_24 : decode b_Mod_flip 24 = .ok (.iconst 0, 1) := by decide +kernel
theorem d_Mod_flip_25 : decode b_Mod_flip 25 = .ok (.iastore, 1) := by decide +kernel
theorem d_Mod_flip_26 : decode b_Mod_flip 26 = .ok (.goto 19, 3) := by decide +kernel
theorem d_Mod_flip_29 : decode b_Mod_flip 29 = .ok (.aload_n 0, 1) := by decide +kernel
theorem d_Mod_flip_30 : decode b_Mod_flip 30 = .ok (.getfield 28, 3) := by decide +kernel
theorem d_Mod_flip_33 : decode b_Mod_flip 33 = .ok (.iload_n 1, 1) := by decide +kernel
theorem d_Mod_flip_34 : decode b_Mod_flip 34 = .ok (.iaload, 1) := by decide +kernel
theorem d_Mod_flip_35 : decode b_Mod_flip 35 = .ok (.ifCond .eq 10, 3) := by decide +kernel
theorem d_Mod_flip_38 : decode b_Mod_flip 38 = .ok (.aload_n 0, 1) := by decide +kernel
theorem d_Mod_flip_39 : decode b_Mod_flip 39 = .ok (.getfield 28, 3) := by decide +kernel
theorem d_Mod_flip_42 : decode b_Mod_flip 42 = .ok (.iload_n 1, 1) := by decide +kernel
theorem d_Mod_flip_43 : decode b_Mod_flip 43 = .ok (.iconst 3, 1) := by decide +kernel
theorem d_Mod_flip_44 : decode b_Mod_flip 44 = .ok (.iastore, 1) := by decide +kernel
theorem d_Mod_flip_45 : decode b_Mod_flip 45 = .ok (.iinc 1 1, 3) := by decide +kernel
theorem d_Mod_flip_48 : decode b_Mod_flip 48 = .ok (.goto (-46), 3) := by decide +kernel
theorem d_Mod_flip_51 : decode b_Mod_flip 51 = .ok (.aload_n 0, 1) := by decide +kernel
theorem d_Mod_flip_52 : decode b_Mod_flip 52 = .ok (.iconst 0, 1) := by decide +kernel
theorem d_Mod_flip_53 : decode b_Mod_flip 53 = .ok (.putfield 88, 3) := by decide +kernel
theorem d_Mod_flip_56 : decode b_Mod_flip 56 = .ok (.aload_n 0, 1) := by decide +kernel
theorem d_Mod_flip_57 : decode b_Mod_flip 57 = .ok (.iconst 0, 1) := by decide +kernel
theorem d_Mod_flip_58 : decode b_Mod_flip 58 = .ok (.putfield 95, 3) := by decide +kernel
theorem d_Mod_flip_61 : decode b_Mod_flip 61 = .ok (.aload_n 0, 1) := by decide +kernel
theorem d_Mod_flip_62 : decode b_Mod_flip 62 = .ok (.iconst 0, 1) := by decide +kernel
theorem d_Mod_flip_63 : decode b_Mod_flip 63 = .ok (.putfield 105, 3) := by decide +kernel
theorem d_Mod_flip_66 : decode b_Mod_flip 66 = .ok (.aload_n 0, 1) := by decide +kernel
theorem d_Mod_flip_67 : decode b_Mod_flip 67 = .ok (.iconst 0, 1) := by decide +kernel
theorem d_Mod_flip_68 : decode b_Mod_flip 68 = .ok (.putfield 108, 3) := by decide +kernel
theorem d_Mod_flip_71 : decode b_Mod_flip 71 = .ok (.aload_n 0, 1) := by decide +kernel
theorem d_Mod_flip_72 : decode b_Mod_flip 72 = .ok (.dup, 1) := by decide +kernel
theorem d_Mod_flip_73 : decode b_Mod_flip 73 = .ok (.getfield 117, 3) := by decide +kernel
theorem d_Mod_flip_76 : decode b_Mod_flip 76 = .ok (.iconst 1, 1) := by decide +kernel
theorem d_Mod_flip_77 : decode b_Mod_flip 77 = .ok (.iadd, 1) := by decide +kernel
theorem d_Mod_flip_78 : decode b_Mod_flip 78 = .ok (.putfield 117, 3) := by decide +kernel
theorem d_Mod_flip_81 : decode b_Mod_flip 81 = .ok (.aload_n 0, 1) := by decide +kernel
theorem d_Mod_flip_82 : decode b_Mod_flip 82 = .ok (.aload_n 0, 1) := by decide +kernel
theorem d_Mod_flip_83 : decode b_Mod_flip 83 = .ok (.getfield 120, 3) := by decide +kernel
theorem d_Mod_flip_86 : decode b_Mod_flip 86 = .ok (.invokevirtual 101, 3) := by decide +kernel
theorem d_Mod_flip_89 : decode b_Mod_flip 89 = .ok (.return_, 1) := by decide +kernel
abbrev rm_Mod_flip : Room := { frames := 2, cells := 0, slots := 0, locals := 42 }
set_option maxHeartbeats 4000000 in
set_option maxRecDepth 100000 in
theorem j_Mod_flip_B2_J45 {l : Launch} {dC : Nat → ClassId} {dI : Nat → Nat → Nat} {a : Nat → Nat} {cI cZ : ClassId} {pr : Program} {e : Env} {s : State} {m : MethodId} {args : Array Value} {below : List Frame} {meth : Method} {c : Code} {A : Nat → Prop} {ls : Array Slot} {H : Heap} {locs : List Loc} {σ : St} {x1 : Int32} {q : Nat × (Int32 × St)} {Q : State → Prop} (C : Cx (dC, dI) clA (tyM cI cZ) SXm pr s m args meth c b_Mod_flip 2 y_Mod_flip.cls A) (h : fMod_flip_B2_J45 σ x1 = some q) (hl : lv_has ls 2 [(0, .ref (a 0)), (1, .int x1)]) (hI : Wi (dC, dI) clA (wM a cI cZ σ) s A H locs) (kC : q.1 = 1 → ∀ (ls : Array Slot) (H : Heap) (locs : List Loc), lv_has ls 2 [(0, .ref (a 0)), (1, .int q.2.1)] → Wi (dC, dI) clA (wM a cI cZ q.2.2) s A H locs → W pr l e rm_Mod_flip s m args below meth c H locs 0 0 Q (F0 m 2 ls [])) (kX0 : q.1 = 0 → ∀ (ls : Array Slot) (H : Heap) (locs : List Loc), lv_has ls 2 [(0, .ref (a 0)), (1, .int q.2.1)] → Wi (dC, dI) clA (wM a cI cZ q.2.2) s A H locs → W pr l e rm_Mod_flip s m args below meth c H locs 0 0 Q (F0 m 51 ls [])) : W pr l e rm_Mod_flip s m args below meth c H locs 0 0 Q (F0 m 45 ls []) := by
  have hx := C.1
  have hb := C.2.1
  unfold fMod_flip_B2_J45 at h
  refine lv_iinc (k := 1) (v := x1 + 1) (lv' := [(1, .int (x1 + 1)), (0, .ref (a 0))]) hx hb d_Mod_flip_45 hl rfl rfl (by decide) rfl (fun ls hl => ?_)
  refine lv_goto (tgt := 2) hx hb d_Mod_flip_48 (by decide) ?_
  replace h := Option.some.inj h
  subst h
  exact kC rfl _ _ _ (lv_sub hl [1, 0] rfl) hI
set_option maxHeartbeats 4000000 in
set_option maxRecDepth 100000 in
theorem b_Mod_flip_B2 {l : Launch} {dC : Nat → ClassId} {dI : Nat → Nat → Nat} {a : Nat → Nat} {cI cZ : ClassId} {pr : Program} {e : Env} {s : State} {m : MethodId} {args : Array Value} {below : List Frame} {meth : Method} {c : Code} {A : Nat → Prop} {ls : Array Slot} {H : Heap} {locs : List Loc} {s0 : Int32 × St} {q : Nat × (Int32 × St)} {Q : State → Prop} (C : Cx (dC, dI) clA (tyM cI cZ) SXm pr s m args meth c b_Mod_flip 2 y_Mod_flip.cls A) (h : fMod_flip_B2 s0 = some q) (hl : lv_has ls 2 [(0, .ref (a 0)), (1, .int s0.1)]) (hI : Wi (dC, dI) clA (wM a cI cZ s0.2) s A H locs) (kC : q.1 = 1 → ∀ (ls : Array Slot) (H : Heap) (locs : List Loc), lv_has ls 2 [(0, .ref (a 0)), (1, .int q.2.1)] → Wi (dC, dI) clA (wM a cI cZ q.2.2) s A H locs → W pr l e rm_Mod_flip s m args below meth c H locs 0 0 Q (F0 m 2 ls [])) (kX0 : q.1 = 0 → ∀ (ls : Array Slot) (H : Heap) (locs : List Loc), lv_has ls 2 [(0, .ref (a 0)), (1, .int q.2.1)] → Wi (dC, dI) clA (wM a cI cZ q.2.2) s A H locs → W pr l e rm_Mod_flip s m args below meth c H locs 0 0 Q (F0 m 51 ls [])) : W pr l e rm_Mod_flip s m args below meth c H locs 0 0 Q (F0 m 2 ls []) := by
  have hx := C.1
  have hb := C.2.1
  unfold fMod_flip_B2 at h
  refine lv_iload_n hx hb d_Mod_flip_2 rfl (lv_at hl 1 rfl) ?_
  refine lv_sipush (v := 240) hx hb d_Mod_flip_3 (by decide) ?_
  refine lv_icmp_ge (tgt := 51) hx hb d_Mod_flip_6 (by decide) (fun hc => ?_) (fun hc => ?_)
  · replace h := of_pos hc h
    replace h := Option.some.inj h
    subst h
    exact kX0 rfl _ _ _ (lv_sub hl [0, 1] rfl) hI
  · replace h := of_neg hc h
    refine lv_aload_n hx hb d_Mod_flip_9 rfl (lv_at hl 0 rfl) ?_
    refine gf_Mod_28 C hI d_Mod_flip_10 ?_
    refine lv_iload_n hx hb d_Mod_flip_13 rfl (lv_at hl 1 rfl) ?_
    obtain ⟨hg14, h⟩ := of_guard h
    refine al_M_6 C hI (f := s0.2.2 6) rfl hg14 d_Mod_flip_14 ?_
    refine lv_iconst (v := 3) hx hb d_Mod_flip_15 (by decide) ?_
    refine lv_icmp_ne (tgt := 29) hx hb d_Mod_flip_16 (by decide) (fun hc => ?_) (fun hc => ?_)
    · replace h := of_neg hc h
      refine lv_aload_n hx hb d_Mod_flip_29 rfl (lv_at hl 0 rfl) ?_
      refine gf_Mod_28 C hI d_Mod_flip_30 ?_
      refine lv_iload_n hx hb d_Mod_flip_33 rfl (lv_at hl 1 rfl) ?_
      obtain ⟨hg34, h⟩ := of_guard h
      refine al_M_6 C hI (f := s0.2.2 6) rfl hg34 d_Mod_flip_34 ?_
      refine lv_if_eq (tgt := 45) hx hb d_Mod_flip_35 (by decide) (fun hc => ?_) (fun hc => ?_)
      · replace h := of_pos hc h
        exact j_Mod_flip_B2_J45 C h (lv_sub hl [0, 1] rfl) hI kC kX0
      · replace h := of_neg hc h
        refine lv_aload_n hx hb d_Mod_flip_38 rfl (lv_at hl 0 rfl) ?_
        refine gf_Mod_28 C hI d_Mod_flip_39 ?_
        refine lv_iload_n hx hb d_Mod_flip_42 rfl (lv_at hl 1 rfl) ?_
        refine lv_iconst (v := 3) hx hb d_Mod_flip_43 (by decide) ?_
        obtain ⟨hg44, h⟩ := of_guard h
        refine as_M_6 C hI (σ' := (s0.2.1, va_up s0.2.2 6 (upd (s0.2.2 6) s0.1.toNatClampNeg 3))) rfl hg44 d_Mod_flip_44 (fun H locs hI => ?_)
        exact j_Mod_flip_B2_J45 C h (lv_sub hl [0, 1] rfl) hI kC kX0
    · replace h := of_pos hc h
      refine lv_aload_n hx hb d_Mod_flip_19 rfl (lv_at hl 0 rfl) ?_
      refine gf_Mod_28 C hI d_Mod_flip_20 ?_
      refine lv_iload_n hx hb d_Mod_flip_23 rfl (lv_at hl 1 rfl) ?_
      refine lv_iconst (v := 0) hx hb d_Mod_flip_24 (by decide) ?_
      obtain ⟨hg25, h⟩ := of_guard h
      refine as_M_6 C hI (σ' := (s0.2.1, va_up s0.2.2 6 (upd (s0.2.2 6) s0.1.toNatClampNeg 0))) rfl hg25 d_Mod_flip_25 (fun H locs hI => ?_)
      refine lv_goto (tgt := 45) hx hb d_Mod_flip_26 (by decide) ?_
      exact j_Mod_flip_B2_J45 C h (lv_sub hl [0, 1] rfl) hI kC kX0
set_option maxHeartbeats 4000000 in
set_option maxRecDepth 100000 in
theorem l_Mod_flip_B2 {l : Launch} {dC : Nat → ClassId} {dI : Nat → Nat → Nat} {a : Nat → Nat} {cI cZ : ClassId} {pr : Program} {e : Env} {s : State} {m : MethodId} {args : Array Value} {below : List Frame} {meth : Method} {c : Code} {A : Nat → Prop} {Q : State → Prop} (C : Cx (dC, dI) clA (tyM cI cZ) SXm pr s m args meth c b_Mod_flip 2 y_Mod_flip.cls A) : ∀ (k : Nat) (s0 : Int32 × St) (q : Nat × (Int32 × St)) (ls : Array Slot) (H : Heap) (locs : List Loc), rbLoop (fMod_flip_B2) k s0 = some q → lv_has ls 2 [(0, .ref (a 0)), (1, .int s0.1)] → Wi (dC, dI) clA (wM a cI cZ s0.2) s A H locs → (q.1 = 0 → ∀ (ls : Array Slot) (H : Heap) (locs : List Loc), lv_has ls 2 [(0, .ref (a 0)), (1, .int q.2.1)] → Wi (dC, dI) clA (wM a cI cZ q.2.2) s A H locs → W pr l e rm_Mod_flip s m args below meth c H locs 0 0 Q (F0 m 51 ls [])) → W pr l e rm_Mod_flip s m args below meth c H locs 0 0 Q (F0 m 2 ls []) := by
  intro k
  induction k with
  | zero => intro s0 q ls H locs h; cases h
  | succ k ih =>
    intro s0 q ls H locs h hl hI kX0
    obtain ⟨q1, hq1, h⟩ := rbLoop_succ h
    by_cases hc : q1.1 = 1
    · replace h := of_pos hc h
      refine b_Mod_flip_B2 C hq1 hl hI (fun _ ls H locs hl hI => ih _ _ _ _ _ h hl hI kX0) (fun hz => absurd (hc.symm.trans hz) (by decide))
    · replace h := of_neg hc h
      cases h
      exact b_Mod_flip_B2 C hq1 hl hI (fun hz => absurd hz hc) kX0
set_option maxHeartbeats 4000000 in
set_option maxRecDepth 100000 in
theorem c_Mod_flip {l : Launch} {dC : Nat → ClassId} {dI : Nat → Nat → Nat} {a : Nat → Nat} {cI cZ : ClassId} {σ : St} {q : St} (h : fMod_flip σ = some q) : CV l (dC, dI) clA (tyM cI cZ) SXm (wM a cI cZ σ) (wM a cI cZ q) y_Mod_flip b_Mod_flip 2 none rm_Mod_flip [.ref (a 0)] := by
  refine CV_of (by decide) (Nat.le_of_ble_eq_true rfl) ?_
  intro pr e s m below meth c A ls C hr hl hI
  have hx := C.1
  have hb := C.2.1
  have hl : lv_has ls 2 [(0, .ref (a 0))] := hl
  unfold fMod_flip at h
  refine lv_iconst (v := 0) hx hb d_Mod_flip_0 (by decide) ?_
  refine lv_istore_n (lv' := [(1, .int 0), (0, .ref (a 0))]) hx hb d_Mod_flip_1 rfl hl (by decide) rfl (fun ls hl => ?_)
  obtain ⟨q2, hq2, h⟩ := of_bind h
  refine l_Mod_flip_B2 C _ _ _ _ _ _ hq2 (lv_sub hl [1, 0] rfl) hI ?_
  intro _ ls H locs hl hI
  refine lv_aload_n hx hb d_Mod_flip_51 rfl (lv_at hl 0 rfl) ?_
  refine lv_iconst (v := 0) hx hb d_Mod_flip_52 (by decide) ?_
  refine pf_Mod_88 C hI (σ' := (upd q2.2.2.1 5 0, q2.2.2.2)) rfl d_Mod_flip_53 (fun H locs hI => ?_)
  refine lv_aload_n hx hb d_Mod_flip_56 rfl (lv_at hl 0 rfl) ?_
  refine lv_iconst (v := 0) hx hb d_Mod_flip_57 (by decide) ?_
  refine pf_Mod_95 C hI (σ' := (upd (upd q2.2.2.1 5 0) 6 0, q2.2.2.2)) rfl d_Mod_flip_58 (fun H locs hI => ?_)
  refine lv_aload_n hx hb d_Mod_flip_61 rfl (lv_at hl 0 rfl) ?_
  refine lv_iconst (v := 0) hx hb d_Mod_flip_62 (by decide) ?_
  refine pf_Mod_105 C hI (σ' := (upd (upd (upd q2.2.2.1 5 0) 6 0) 7 0, q2.2.2.2)) rfl d_Mod_flip_63 (fun H locs hI => ?_)
  refine lv_aload_n hx hb d_Mod_flip_66 rfl (lv_at hl 0 rfl) ?_
  refine lv_iconst (v := 0) hx hb d_Mod_flip_67 (by decide) ?_
  refine pf_Mod_108 C hI (σ' := (upd (upd (upd (upd q2.2.2.1 5 0) 6 0) 7 0) 8 0, q2.2.2.2)) rfl d_Mod_flip_68 (fun H locs hI => ?_)
  refine lv_aload_n hx hb d_Mod_flip_71 rfl (lv_at hl 0 rfl) ?_
  refine lv_dup hx hb d_Mod_flip_72 rfl ?_
  refine gf_Mod_117 C hI (v := q2.2.2.1 14) rfl d_Mod_flip_73 ?_
  refine lv_iconst (v := 1) hx hb d_Mod_flip_76 (by decide) ?_
  refine lv_iadd hx hb d_Mod_flip_77 ?_
  refine pf_Mod_117 C hI (σ' := (upd (upd (upd (upd (upd q2.2.2.1 5 0) 6 0) 7 0) 8 0) 14 ((q2.2.2.1 14) + 1), q2.2.2.2)) rfl d_Mod_flip_78 (fun H locs hI => ?_)
  refine lv_aload_n hx hb d_Mod_flip_81 rfl (lv_at hl 0 rfl) ?_
  refine lv_aload_n hx hb d_Mod_flip_82 rfl (lv_at hl 0 rfl) ?_
  refine gf_Mod_120 C hI (v := q2.2.2.1 9) rfl d_Mod_flip_83 ?_
  obtain ⟨p86, hp86, h⟩ := of_bind h
  refine rb_callV smok C (c_Mod_move hp86) cw_Mod_101 ⟨Nat.le_of_ble_eq_true rfl, Nat.le_of_ble_eq_true rfl⟩ ⟨rfl, rfl⟩ (q0 := 0) (ci := 4) rfl rfl hI ⟨Nat.zero_le _, Nat.zero_le _⟩ (As := [.int (q2.2.2.1 9)]) rfl hl.1 (rest := []) (Nat.le_of_ble_eq_true rfl) rfl d_Mod_flip_86 (fun H locs hI => ?_)
  replace h := Option.some.inj h
  subst h
  exact rb_retV C hr hI d_Mod_flip_89
theorem d_Mod_make_0 : decode b_Mod_make 0 = .ok (.iload_n 1, 1) := by decide +kernel
theorem d_Mod_make_1 : decode b_Mod_make 1 = .ok (.iconst (-1), 1) := by decide +kernel
theorem d_Mod_make_2 : decode b_Mod_make 2 = .ok (.if_icmp .ne 8, 3) := by decide +kernel
theorem d_Mod_make_5 : decode b_Mod_make 5 = .ok (.bipush 9, 2) := by decide +kernel
theorem d_Mod_make_7 : decode b_Mod_make 7 = .ok (.goto 18, 3) := by decide +kernel
theorem d_Mod_make_10 : decode b_Mod_make 10 = .ok (.iconst 1, 1) := by decide +kernel
theorem d_Mod_make_11 : decode b_Mod_make 11 = .ok (.aload_n 0, 1) := by decide +kernel
theorem d_Mod_make_12 : decode b_Mod_make 12 = .ok (.getfield 7, 3) := by decide +kernel
theorem d_Mod_make_15 : decode b_Mod_make 15 = .ok (.iload_n 1, 1) := by decide +kernel
theorem d_Mod_make_16 : decode b_Mod_make 16 = .ok (.iaload, 1) := by decide +kernel
theorem d_Mod_make_17 : decode b_Mod_make 17 = .ok (.iadd, 1) := by decide +kernel
theorem d_Mod_make_18 : decode b_Mod_make 18 = .ok (.aload_n 0, 1) := by decide +kernel
theorem d_Mod_make_19 : decode b_Mod_make 19 = .ok (.getfield 13, 3) := by decide +kernel
theorem d_Mod_make_22 : decode b_Mod_make 22 = .ok (.iload_n 1, 1) := by decide +kernel
theorem d_Mod_make_23 : decode b_Mod_make 23 = .ok (.iaload, 1) := by decide +kernel
theorem d_Mod_make_24 : decode b_Mod_make 24 = .ok (.iadd, 1) := by decide +kernel
theorem d_Mod_make_25 : decode b_Mod_make 25 = .ok (.istore_n 3, 1) := by decide +kernel
theorem d_Mod_make_26 : decode b_Mod_make 26 = .ok (.iconst 0, 1) := by decide +kernel
theorem d_Mod_make_27 : decode b_Mod_make 27 = .ok (.istore 4, 2) := by decide +kernel
theorem d_Mod_make_29 : decode b_Mod_make 29 = .ok (.iload 4, 2) := by decide +kernel
theorem d_Mod_make_31 : decode b_Mod_make 31 = .ok (.aload_n 0, 1) := by decide +kernel
theorem d_Mod_make_32 : decode b_Mod_make 32 = .ok (.getfield 63, 3) := by decide +kernel
theorem d_Mod_make_35 : decode b_Mod_make 35 = .ok (.iload_n 3, 1) := by decide +kernel
theorem d_Mod_make_36 : decode b_Mod_make 36 = .ok (.imul, 1) := by decide +kernel
theorem d_Mod_make_37 : decode b_Mod_make 37 = .ok (.if_icmp .ge 27, 3) := by decide +kernel
theorem d_Mod_make_40 : decode b_Mod_make 40 = .ok (.aload_n 0, 1) := by decide +kernel
theorem d_Mod_make_41 : decode b_Mod_make 41 = .ok (.getfield 53, 3) := by decide +kernel
theorem d_Mod_make_44 : decode b_Mod_make 44 = .ok (.ifCond .ne 20, 3) := by decide +kernel
theorem d_Mod_make_47 : decode b_Mod_make 47 = .ok (.aload_n 0, 1) := by decide +kernel
theorem d_Mod_make_48 : decode b_Mod_make 48 = .ok (.invokevirtual 123, 3) := by decide +kernel
theorem d_Mod_make_51 : decode b_Mod_make 51 = .ok (.ifCond .ne 13, 3) := by decide +kernel
theorem d_Mod_make_54 : decode b_Mod_make 54 = .ok (.aload_n 0, 1) := by decide +kernel
theorem d_Mod_make_55 : decode b_Mod_make 55 = .ok (.invokevirtual 127, 3) := by decide +kernel
theorem d_Mod_make_58 : decode b_Mod_make 58 = .ok (.iinc 4 1, 3) := by decide +kernel
theorem d_Mod_make_61 : decode b_Mod_make 61 = .ok (.goto (-32), 3) := by decide +kernel
theorem d_Mod_make_64 : decode b_Mod_make 64 = .ok (.aload_n 0, 1) := by decide +kernel
theorem d_Mod_make_65 : decode b_Mod_make 65 = .ok (.getfield 53, 3) := by decide +kernel
theorem d_Mod_make_68 : decode b_Mod_make 68 = .ok (.ifCond .eq 5, 3) := by decide +kernel
theorem d_Mod_make_71 : decode b_Mod_make 71 = .ok (.iconst (-1), 1) := by decide +kernel
theorem d_Mod_make_72 : decode b_Mod_make 72 = .ok (.ireturn, 1) := by decide +kernel
theorem d_Mod_make_73 : decode b_Mod_make 73 = .ok (.aload_n 0, 1) := by decide +kernel
theorem d_Mod_make_74 : decode b_Mod_make 74 = .ok (.getfield 88, 3) := by decide +kernel
theorem d_Mod_make_77 : decode b_Mod_make 77 = .ok (.iload_n 3, 1) := by decide +kernel
theorem d_Mod_make_78 : decode b_Mod_make 78 = .ok (.iadd, 1) := by decide +kernel
theorem d_Mod_make_79 : decode b_Mod_make 79 = .ok (.aload_n 0, 1) := by decide +kernel
theorem d_Mod_make_80 : decode b_Mod_make 80 = .ok (.getfield 60, 3) := by decide +kernel
theorem d_Mod_make_83 : decode b_Mod_make 83 = .ok (.if_icmp .le 14, 3) := by decide +kernel
theorem d_Mod_make_86 : decode b_Mod_make 86 = .ok (.aload_n 0, 1) := by decide +kernel
theorem d_Mod_make_87 : decode b_Mod_make 87 = .ok (.invokevirtual 123, 3) := by decide +kernel
theorem d_Mod_make_90 : decode b_Mod_make 90 = .ok (.ifCond .eq 7, 3) := by decide +kernel
theorem d_Mod_make_93 : decode b_Mod_make 93 = .ok (.aload_n 0, 1) := by decide +kernel
theorem d_Mod_make_94 : decode b_Mod_make 94 = .ok (.invokevirtual 130, 3) := by decide +kernel
theorem d_Mod_make_97 : decode b_Mod_make 97 = .ok (.aload_n 0, 1) := by decide +kernel
theorem d_Mod_make_98 : decode b_Mod_make 98 = .ok (.getfield 88, 3) := by decide +kernel
theorem d_Mod_make_101 : decode b_Mod_make 101 = .ok (.iload_n 3, 1) := by decide +kernel
theorem d_Mod_make_102 : decode b_Mod_make 102 = .ok (.iadd, 1) := by decide +kernel
theorem d_Mod_make_103 : decode b_Mod_make 103 = .ok (.aload_n 0, 1) := by decide +kernel
theorem d_Mod_make_104 : decode b_Mod_make 104 = .ok (.getfield 60, 3) := by decide +kernel
theorem d_Mod_make_107 : decode b_Mod_make 107 = .ok (.if_icmp .le 10, 3) := by decide +kernel
theorem d_Mod_make_110 : decode b_Mod_make 110 = .ok (.aload_n 0, 1) := by decide +kernel
theorem d_Mod_make_111 : decode b_Mod_make 111 = .ok (.iconst 3, 1) := by decide +kernel
theorem d_Mod_make_112 : decode b_Mod_make 112 = .ok (.putfield 53, 3) := by decide +kernel
theorem d_Mod_make_115 : decode b_Mod_make 115 = .ok (.iconst (-1), 1) := by decide +kernel
theorem d_Mod_make_116 : decode b_Mod_make 116 = .ok (.ireturn, 1) := by decide +kernel
theorem d_Mod_make_117 : decode b_Mod_make 117 = .ok (.aload_n 0, 1) := by decide +kernel
theorem d_Mod_make_118 : decode b_Mod_make 118 = .ok (.iload_n 1, 1) := by decide +kernel
theorem d_Mod_make_119 : decode b_Mod_make 119 = .ok (.iload_n 2, 1) := by decide +kernel
theorem d_Mod_make_120 : decode b_Mod_make 120 = .ok (.invokevirtual 133, 3) := by decide +kernel
theorem d_Mod_make_123 : decode b_Mod_make 123 = .ok (.ireturn, 1) := by decide +kernel
abbrev rm_Mod_make : Room := { frames := 4, cells := 0, slots := 0, locals := 85 }
set_option maxHeartbeats 4000000 in
set_option maxRecDepth 100000 in
theorem b_Mod_make_B29 {l : Launch} {dC : Nat → ClassId} {dI : Nat → Nat → Nat} {a : Nat → Nat} {cI cZ : ClassId} {pr : Program} {e : Env} {s : State} {m : MethodId} {args : Array Value} {below : List Frame} {meth : Method} {c : Code} {A : Nat → Prop} {ls : Array Slot} {H : Heap} {locs : List Loc} {x1 x2 x3 : Int32} {s0 : Int32 × St} {q : Nat × (Int32 × St)} {Q : State → Prop} (C : Cx (dC, dI) clA (tyM cI cZ) SXm pr s m args meth c b_Mod_make 5 y_Mod_make.cls A) (h : fMod_make_B29 x1 x2 x3 s0 = some q) (hl : lv_has ls 5 [(0, .ref (a 0)), (1, .int x1), (2, .int x2), (3, .int x3), (4, .int s0.1)]) (hI : Wi (dC, dI) clA (wM a cI cZ s0.2) s A H locs) (kC : q.1 = 1 → ∀ (ls : Array Slot) (H : Heap) (locs : List Loc), lv_has ls 5 [(0, .ref (a 0)), (1, .int x1), (2, .int x2), (3, .int x3), (4, .int q.2.1)] → Wi (dC, dI) clA (wM a cI cZ q.2.2) s A H locs → W pr l e rm_Mod_make s m args below meth c H locs 0 0 Q (F0 m 29 ls [])) (kX0 : q.1 = 0 → ∀ (ls : Array Slot) (H : Heap) (locs : List Loc), lv_has ls 5 [(0, .ref (a 0)), (1, .int x1), (2, .int x2), (3, .int x3), (4, .int q.2.1)] → Wi (dC, dI) clA (wM a cI cZ q.2.2) s A H locs → W pr l e rm_Mod_make s m args below meth c H locs 0 0 Q (F0 m 64 ls [])) : W pr l e rm_Mod_make s m args below meth c H locs 0 0 Q (F0 m 29 ls []) := by
  have hx := C.1
  have hb := C.2.1
  unfold fMod_make_B29 at h
  refine lv_iload hx hb d_Mod_make_29 (lv_at hl 4 rfl) ?_
  refine lv_aload_n hx hb d_Mod_make_31 rfl (lv_at hl 0 rfl) ?_
  refine gf_Mod_63 C hI (v := s0.2.1 1) rfl d_Mod_make_32 ?_
  refine lv_iload_n hx hb d_Mod_make_35 rfl (lv_at hl 3 rfl) ?_
  refine lv_imul hx hb d_Mod_make_36 ?_
  refine lv_icmp_ge (tgt := 64) hx hb d_Mod_make_37 (by decide) (fun hc => ?_) (fun hc => ?_)
  · replace h := of_pos hc h
    replace h := Option.some.inj h
    subst h
    exact kX0 rfl _ _ _ (lv_sub hl [0, 1, 2, 3, 4] rfl) hI
  · replace h := of_neg hc h
    refine lv_aload_n hx hb d_Mod_make_40 rfl (lv_at hl 0 rfl) ?_
    refine gf_Mod_53 C hI (v := s0.2.1 12) rfl d_Mod_make_41 ?_
    refine lv_if_ne (tgt := 64) hx hb d_Mod_make_44 (by decide) (fun hc => ?_) (fun hc => ?_)
    · replace h := of_neg hc h
      replace h := Option.some.inj h
      subst h
      exact kX0 rfl _ _ _ (lv_sub hl [0, 1, 2, 3, 4] rfl) hI
    · replace h := of_pos hc h
      refine lv_aload_n hx hb d_Mod_make_47 rfl (lv_at hl 0 rfl) ?_
      obtain ⟨p48, hp48, h⟩ := of_bind h
      refine rb_callI smok C (c_Mod_rowDone hp48) cw_Mod_123 ⟨Nat.le_of_ble_eq_true rfl, Nat.le_of_ble_eq_true rfl⟩ ⟨rfl, rfl⟩ (q0 := 0) (ci := 4) rfl rfl hI ⟨Nat.zero_le _, Nat.zero_le _⟩ (As := []) rfl hl.1 (rest := []) (Nat.le_of_ble_eq_true rfl) rfl d_Mod_make_48 (fun H locs hI => ?_)
      refine lv_if_ne (tgt := 64) hx hb d_Mod_make_51 (by decide) (fun hc => ?_) (fun hc => ?_)
      · replace h := of_neg hc h
        replace h := Option.some.inj h
        subst h
        exact kX0 rfl _ _ _ (lv_sub hl [0, 1, 2, 3, 4] rfl) hI
      · replace h := of_pos hc h
        refine lv_aload_n hx hb d_Mod_make_54 rfl (lv_at hl 0 rfl) ?_
        obtain ⟨p55, hp55, h⟩ := of_bind h
        refine rb_callV smok C (c_Mod_scanCell hp55) cw_Mod_127 ⟨Nat.le_of_ble_eq_true rfl, Nat.le_of_ble_eq_true rfl⟩ ⟨rfl, rfl⟩ (q0 := 0) (ci := 4) rfl rfl hI ⟨Nat.zero_le _, Nat.zero_le _⟩ (As := []) rfl hl.1 (rest := []) (Nat.le_of_ble_eq_true rfl) rfl d_Mod_make_55 (fun H locs hI => ?_)
        refine lv_iinc (k := 4) (v := s0.1 + 1) (lv' := [(4, .int (s0.1 + 1)), (0, .ref (a 0)), (1, .int x1), (2, .int x2), (3, .int x3)]) hx hb d_Mod_make_58 hl rfl rfl (by decide) rfl (fun ls hl => ?_)
        refine lv_goto (tgt := 29) hx hb d_Mod_make_61 (by decide) ?_
        replace h := Option.some.inj h
        subst h
        exact kC rfl _ _ _ (lv_sub hl [1, 2, 3, 4, 0] rfl) hI
set_option maxHeartbeats 4000000 in
set_option maxRecDepth 100000 in
theorem l_Mod_make_B29 {l : Launch} {dC : Nat → ClassId} {dI : Nat → Nat → Nat} {a : Nat → Nat} {cI cZ : ClassId} {pr : Program} {e : Env} {s : State} {m : MethodId} {args : Array Value} {below : List Frame} {meth : Method} {c : Code} {A : Nat → Prop} {x1 x2 x3 : Int32} {Q : State → Prop} (C : Cx (dC, dI) clA (tyM cI cZ) SXm pr s m args meth c b_Mod_make 5 y_Mod_make.cls A) : ∀ (k : Nat) (s0 : Int32 × St) (q : Nat × (Int32 × St)) (ls : Array Slot) (H : Heap) (locs : List Loc), rbLoop (fMod_make_B29 x1 x2 x3) k s0 = some q → lv_has ls 5 [(0, .ref (a 0)), (1, .int x1), (2, .int x2), (3, .int x3), (4, .int s0.1)] → Wi (dC, dI) clA (wM a cI cZ s0.2) s A H locs → (q.1 = 0 → ∀ (ls : Array Slot) (H : Heap) (locs : List Loc), lv_has ls 5 [(0, .ref (a 0)), (1, .int x1), (2, .int x2), (3, .int x3), (4, .int q.2.1)] → Wi (dC, dI) clA (wM a cI cZ q.2.2) s A H locs → W pr l e rm_Mod_make s m args below meth c H locs 0 0 Q (F0 m 64 ls [])) → W pr l e rm_Mod_make s m args below meth c H locs 0 0 Q (F0 m 29 ls []) := by
  intro k
  induction k with
  | zero => intro s0 q ls H locs h; cases h
  | succ k ih =>
    intro s0 q ls H locs h hl hI kX0
    obtain ⟨q1, hq1, h⟩ := rbLoop_succ h
    by_cases hc : q1.1 = 1
    · replace h := of_pos hc h
      refine b_Mod_make_B29 C hq1 hl hI (fun _ ls H locs hl hI => ih _ _ _ _ _ h hl hI kX0) (fun hz => absurd (hc.symm.trans hz) (by decide))
    · replace h := of_neg hc h
      cases h
      exact b_Mod_make_B29 C hq1 hl hI (fun hz => absurd hz hc) kX0
set_option maxHeartbeats 4000000 in
set_option maxRecDepth 100000 in
theorem j_Mod_make_J97 {l : Launch} {dC : Nat → ClassId} {dI : Nat → Nat → Nat} {a : Nat → Nat} {cI cZ : ClassId} {pr : Program} {e : Env} {s : State} {m : MethodId} {args : Array Value} {below : List Frame} {meth : Method} {c : Code} {A : Nat → Prop} {ls : Array Slot} {H : Heap} {locs : List Loc} {σ : St} {x1 x2 x3 : Int32} {q : Int32 × St} (C : Cx (dC, dI) clA (tyM cI cZ) SXm pr s m args meth c b_Mod_make 5 y_Mod_make.cls A) (hr : meth.sig.returnType = (some .int)) (h : fMod_make_J97 σ x1 x2 x3 = some q) (hl : lv_has ls 5 [(0, .ref (a 0)), (1, .int x1), (2, .int x2), (3, .int x3)]) (hI : Wi (dC, dI) clA (wM a cI cZ σ) s A H locs)  : W pr l e rm_Mod_make s m args below meth c H locs 0 0 (MQ below (rb_Qi (dC, dI) clA (tyM cI cZ) (wM a cI cZ q.2) q.1 A) args s 0 0 A) (F0 m 97 ls []) := by
  have hx := C.1
  have hb := C.2.1
  unfold fMod_make_J97 at h
  refine lv_aload_n hx hb d_Mod_make_97 rfl (lv_at hl 0 rfl) ?_
  refine gf_Mod_88 C hI (v := σ.1 5) rfl d_Mod_make_98 ?_
  refine lv_iload_n hx hb d_Mod_make_101 rfl (lv_at hl 3 rfl) ?_
  refine lv_iadd hx hb d_Mod_make_102 ?_
  refine lv_aload_n hx hb d_Mod_make_103 rfl (lv_at hl 0 rfl) ?_
  refine gf_Mod_60 C hI (v := σ.1 0) rfl d_Mod_make_104 ?_
  refine lv_icmp_le (tgt := 117) hx hb d_Mod_make_107 (by decide) (fun hc => ?_) (fun hc => ?_)
  · replace h := of_pos hc h
    refine lv_aload_n hx hb d_Mod_make_117 rfl (lv_at hl 0 rfl) ?_
    refine lv_iload_n hx hb d_Mod_make_118 rfl (lv_at hl 1 rfl) ?_
    refine lv_iload_n hx hb d_Mod_make_119 rfl (lv_at hl 2 rfl) ?_
    obtain ⟨p120, hp120, h⟩ := of_bind h
    refine rb_callI smok C (c_Mod_create hp120) cw_Mod_133 ⟨Nat.le_of_ble_eq_true rfl, Nat.le_of_ble_eq_true rfl⟩ ⟨rfl, rfl⟩ (q0 := 0) (ci := 4) rfl rfl hI ⟨Nat.zero_le _, Nat.zero_le _⟩ (As := [.int x1, .int x2]) rfl hl.1 (rest := []) (Nat.le_of_ble_eq_true rfl) rfl d_Mod_make_120 (fun H locs hI => ?_)
    replace h := Option.some.inj h
    subst h
    exact rb_retI C hr hI d_Mod_make_123
  · replace h := of_neg hc h
    refine lv_aload_n hx hb d_Mod_make_110 rfl (lv_at hl 0 rfl) ?_
    refine lv_iconst (v := 3) hx hb d_Mod_make_111 (by decide) ?_
    refine pf_Mod_53 C hI (σ' := (upd σ.1 12 3, σ.2)) rfl d_Mod_make_112 (fun H locs hI => ?_)
    refine lv_iconst (v := (-1)) hx hb d_Mod_make_115 (by decide) ?_
    replace h := Option.some.inj h
    subst h
    exact rb_retI C hr hI d_Mod_make_116
set_option maxHeartbeats 4000000 in
set_option maxRecDepth 100000 in
theorem j_Mod_make_J64 {l : Launch} {dC : Nat → ClassId} {dI : Nat → Nat → Nat} {a : Nat → Nat} {cI cZ : ClassId} {pr : Program} {e : Env} {s : State} {m : MethodId} {args : Array Value} {below : List Frame} {meth : Method} {c : Code} {A : Nat → Prop} {ls : Array Slot} {H : Heap} {locs : List Loc} {σ : St} {x1 x2 x3 : Int32} {q : Int32 × St} (C : Cx (dC, dI) clA (tyM cI cZ) SXm pr s m args meth c b_Mod_make 5 y_Mod_make.cls A) (hr : meth.sig.returnType = (some .int)) (h : fMod_make_J64 σ x1 x2 x3 = some q) (hl : lv_has ls 5 [(0, .ref (a 0)), (1, .int x1), (2, .int x2), (3, .int x3)]) (hI : Wi (dC, dI) clA (wM a cI cZ σ) s A H locs)  : W pr l e rm_Mod_make s m args below meth c H locs 0 0 (MQ below (rb_Qi (dC, dI) clA (tyM cI cZ) (wM a cI cZ q.2) q.1 A) args s 0 0 A) (F0 m 64 ls []) := by
  have hx := C.1
  have hb := C.2.1
  unfold fMod_make_J64 at h
  refine lv_aload_n hx hb d_Mod_make_64 rfl (lv_at hl 0 rfl) ?_
  refine gf_Mod_53 C hI (v := σ.1 12) rfl d_Mod_make_65 ?_
  refine lv_if_eq (tgt := 73) hx hb d_Mod_make_68 (by decide) (fun hc => ?_) (fun hc => ?_)
  · replace h := of_pos hc h
    refine lv_aload_n hx hb d_Mod_make_73 rfl (lv_at hl 0 rfl) ?_
    refine gf_Mod_88 C hI (v := σ.1 5) rfl d_Mod_make_74 ?_
    refine lv_iload_n hx hb d_Mod_make_77 rfl (lv_at hl 3 rfl) ?_
    refine lv_iadd hx hb d_Mod_make_78 ?_
    refine lv_aload_n hx hb d_Mod_make_79 rfl (lv_at hl 0 rfl) ?_
    refine gf_Mod_60 C hI (v := σ.1 0) rfl d_Mod_make_80 ?_
    refine lv_icmp_le (tgt := 97) hx hb d_Mod_make_83 (by decide) (fun hc => ?_) (fun hc => ?_)
    · replace h := of_pos hc h
      exact j_Mod_make_J97 C hr h (lv_sub hl [0, 1, 2, 3] rfl) hI
    · replace h := of_neg hc h
      refine lv_aload_n hx hb d_Mod_make_86 rfl (lv_at hl 0 rfl) ?_
      obtain ⟨p87, hp87, h⟩ := of_bind h
      refine rb_callI smok C (c_Mod_rowDone hp87) cw_Mod_123 ⟨Nat.le_of_ble_eq_true rfl, Nat.le_of_ble_eq_true rfl⟩ ⟨rfl, rfl⟩ (q0 := 0) (ci := 4) rfl rfl hI ⟨Nat.zero_le _, Nat.zero_le _⟩ (As := []) rfl hl.1 (rest := []) (Nat.le_of_ble_eq_true rfl) rfl d_Mod_make_87 (fun H locs hI => ?_)
      refine lv_if_eq (tgt := 97) hx hb d_Mod_make_90 (by decide) (fun hc => ?_) (fun hc => ?_)
      · replace h := of_pos hc h
        exact j_Mod_make_J97 C hr h (lv_sub hl [0, 1, 2, 3] rfl) hI
      · replace h := of_neg hc h
        refine lv_aload_n hx hb d_Mod_make_93 rfl (lv_at hl 0 rfl) ?_
        obtain ⟨p94, hp94, h⟩ := of_bind h
        refine rb_callV smok C (c_Mod_flip hp94) cw_Mod_130 ⟨Nat.le_of_ble_eq_true rfl, Nat.le_of_ble_eq_true rfl⟩ ⟨rfl, rfl⟩ (q0 := 0) (ci := 4) rfl rfl hI ⟨Nat.zero_le _, Nat.zero_le _⟩ (As := []) rfl hl.1 (rest := []) (Nat.le_of_ble_eq_true rfl) rfl d_Mod_make_94 (fun H locs hI => ?_)
        exact j_Mod_make_J97 C hr h (lv_sub hl [0, 1, 2, 3] rfl) hI
  · replace h := of_neg hc h
    refine lv_iconst (v := (-1)) hx hb d_Mod_make_71 (by decide) ?_
    replace h := Option.some.inj h
    subst h
    exact rb_retI C hr hI d_Mod_make_72
set_option maxHeartbeats 4000000 in
set_option maxRecDepth 100000 in
theorem j_Mod_make_J25 {l : Launch} {dC : Nat → ClassId} {dI : Nat → Nat → Nat} {a : Nat → Nat} {cI cZ : ClassId} {pr : Program} {e : Env} {s : State} {m : MethodId} {args : Array Value} {below : List Frame} {meth : Method} {c : Code} {A : Nat → Prop} {ls : Array Slot} {H : Heap} {locs : List Loc} {σ : St} {x1 x2 s0 : Int32} {q : Int32 × St} (C : Cx (dC, dI) clA (tyM cI cZ) SXm pr s m args meth c b_Mod_make 5 y_Mod_make.cls A) (hr : meth.sig.returnType = (some .int)) (h : fMod_make_J25 σ x1 x2 s0 = some q) (hl : lv_has ls 5 [(0, .ref (a 0)), (1, .int x1), (2, .int x2)]) (hI : Wi (dC, dI) clA (wM a cI cZ σ) s A H locs)  : W pr l e rm_Mod_make s m args below meth c H locs 0 0 (MQ below (rb_Qi (dC, dI) clA (tyM cI cZ) (wM a cI cZ q.2) q.1 A) args s 0 0 A) (F0 m 25 ls [.int s0]) := by
  have hx := C.1
  have hb := C.2.1
  unfold fMod_make_J25 at h
  refine lv_istore_n (lv' := [(3, .int s0), (0, .ref (a 0)), (1, .int x1), (2, .int x2)]) hx hb d_Mod_make_25 rfl hl (by decide) rfl (fun ls hl => ?_)
  refine lv_iconst (v := 0) hx hb d_Mod_make_26 (by decide) ?_
  refine lv_istore (lv' := [(4, .int 0), (3, .int s0), (0, .ref (a 0)), (1, .int x1), (2, .int x2)]) hx hb d_Mod_make_27 hl (by decide) rfl (fun ls hl => ?_)
  obtain ⟨q29, hq29, h⟩ := of_bind h
  refine l_Mod_make_B29 C _ _ _ _ _ _ hq29 (lv_sub hl [2, 3, 4, 1, 0] rfl) hI ?_
  intro _ ls H locs hl hI
  exact j_Mod_make_J64 C hr h (lv_sub hl [0, 1, 2, 3] rfl) hI
set_option maxHeartbeats 4000000 in
set_option maxRecDepth 100000 in
theorem c_Mod_make {l : Launch} {dC : Nat → ClassId} {dI : Nat → Nat → Nat} {a : Nat → Nat} {cI cZ : ClassId} {σ : St} {x1 x2 : Int32} {q : Int32 × St} (h : fMod_make σ x1 x2 = some q) : CI l (dC, dI) clA (tyM cI cZ) SXm (wM a cI cZ σ) (wM a cI cZ q.2) y_Mod_make b_Mod_make 5 (some .int) rm_Mod_make [.ref (a 0), .int x1, .int x2] q.1 := by
  refine CI_of (by decide) (Nat.le_of_ble_eq_true rfl) ?_
  intro pr e s m below meth c A ls C hr hl hI
  have hx := C.1
  have hb := C.2.1
  have hl : lv_has ls 5 [(0, .ref (a 0)), (1, .int x1), (2, .int x2)] := hl
  unfold fMod_make at h
  refine lv_iload_n hx hb d_Mod_make_0 rfl (lv_at hl 1 rfl) ?_
  refine lv_iconst (v := (-1)) hx hb d_Mod_make_1 (by decide) ?_
  refine lv_icmp_ne (tgt := 10) hx hb d_Mod_make_2 (by decide) (fun hc => ?_) (fun hc => ?_)
  · replace h := of_neg hc h
    refine lv_iconst (v := 1) hx hb d_Mod_make_10 (by decide) ?_
    refine lv_aload_n hx hb d_Mod_make_11 rfl (lv_at hl 0 rfl) ?_
    refine gf_Mod_7 C hI d_Mod_make_12 ?_
    refine lv_iload_n hx hb d_Mod_make_15 rfl (lv_at hl 1 rfl) ?_
    obtain ⟨hg16, h⟩ := of_guard h
    refine al_M_0 C hI (f := σ.2 0) rfl hg16 d_Mod_make_16 ?_
    refine lv_iadd hx hb d_Mod_make_17 ?_
    refine lv_aload_n hx hb d_Mod_make_18 rfl (lv_at hl 0 rfl) ?_
    refine gf_Mod_13 C hI d_Mod_make_19 ?_
    refine lv_iload_n hx hb d_Mod_make_22 rfl (lv_at hl 1 rfl) ?_
    obtain ⟨hg23, h⟩ := of_guard h
    refine al_M_1 C hI (f := σ.2 1) rfl hg23 d_Mod_make_23 ?_
    refine lv_iadd hx hb d_Mod_make_24 ?_
    exact j_Mod_make_J25 C hr h (lv_sub hl [0, 1, 2] rfl) hI
  · replace h := of_pos hc h
    refine lv_bipush (v := 9) hx hb d_Mod_make_5 (by decide) ?_
    refine lv_goto (tgt := 25) hx hb d_Mod_make_7 (by decide) ?_
    exact j_Mod_make_J25 C hr h (lv_sub hl [0, 1, 2] rfl) hI
