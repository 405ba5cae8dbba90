theorem d_Mod_below_0 : decode b_Mod_below 0 = .ok (.iload_n 0, 1) := by decide +kernel
theorem d_Mod_below_1 : decode b_Mod_below 1 = .ok (.ifCond .lt 12, 3) := by decide +kernel
theorem d_Mod_below_4 : decode b_Mod_below 4 = .ok (.iload_n 0, 1) := by decide +kernel
theorem d_Mod_below_5 : decode b_Mod_below 5 = .ok (.iload_n 1, 1) := by decide +kernel
theorem d_Mod_below_6 : decode b_Mod_below 6 = .ok (.if_icmp .ge 7, 3) := by decide +kernel
theorem d_Mod_below_9 : decode b_Mod_below 9 = .ok (.iconst 1, 1) := by decide +kernel
theorem d_Mod_below_10 : decode b_Mod_below 10 = .ok (.goto 4, 3) := by decide +kernel
theorem d_Mod_below_13 : decode b_Mod_below 13 = .ok (.iconst 0, 1) := by decide +kernel
theorem d_Mod_below_14 : decode b_Mod_below 14 = .ok (.ireturn, 1) := by decide +kernel
abbrev rm_Mod_below : Room := { frames := 0, cells := 0, slots := 0, locals := 0 }
set_option maxHeartbeats 4000000 in
set_option maxRecDepth 100000 in
theorem c_Mod_below {l : Launch} {dC : Nat → ClassId} {dI : Nat → Nat → Nat} {a : Nat → Nat} {cI cZ : ClassId} {σ : St} {x0 x1 : Int32} {q : Int32 × St} (h : fMod_below σ x0 x1 = some q) : CI l (dC, dI) clA (tyM cI cZ) SXm (wM a cI cZ σ) (wM a cI cZ q.2) y_Mod_below b_Mod_below 2 (some .boolean) rm_Mod_below [.int x0, .int x1] q.1 := by
  refine CI_of (by decide) (Nat.le_of_ble_eq_true rfl) ?_
  intro pr e s m below meth c A ls C hr hl hI
  have hx := C.1
  have hb := C.2.1
  have hl : lv_has ls 2 [(0, .int x0), (1, .int x1)] := hl
  unfold fMod_below at h
  refine lv_iload_n hx hb d_Mod_below_0 rfl (lv_at hl 0 rfl) ?_
  refine lv_if_lt (tgt := 13) hx hb d_Mod_below_1 (by decide) (fun hc => ?_) (fun hc => ?_)
  · replace h := of_pos hc h
    refine lv_iconst (v := 0) hx hb d_Mod_below_13 (by decide) ?_
    replace h := Option.some.inj h
    subst h
    exact rb_retZ C hr (Or.inl rfl) hI d_Mod_below_14
  · replace h := of_neg hc h
    refine lv_iload_n hx hb d_Mod_below_4 rfl (lv_at hl 0 rfl) ?_
    refine lv_iload_n hx hb d_Mod_below_5 rfl (lv_at hl 1 rfl) ?_
    refine lv_icmp_ge (tgt := 13) hx hb d_Mod_below_6 (by decide) (fun hc => ?_) (fun hc => ?_)
    · replace h := of_pos hc h
      refine lv_iconst (v := 0) hx hb d_Mod_below_13 (by decide) ?_
      replace h := Option.some.inj h
      subst h
      exact rb_retZ C hr (Or.inl rfl) hI d_Mod_below_14
    · replace h := of_neg hc h
      refine lv_iconst (v := 1) hx hb d_Mod_below_9 (by decide) ?_
      refine lv_goto (tgt := 14) hx hb d_Mod_below_10 (by decide) ?_
      replace h := Option.some.inj h
      subst h
      exact rb_retZ C hr (Or.inr rfl) hI d_Mod_below_14
theorem d_Mod_kind_0 : decode b_Mod_kind 0 = .ok (.aload_n 0, 1) := by decide +kernel
theorem d_Mod_kind_1 : decode b_Mod_kind 1 = .ok (.getfield 66, 3) := by decide +kernel
theorem d_Mod_kind_4 : decode b_Mod_kind 4 = .ok (.iconst 4, 1) := by decide +kernel
theorem d_Mod_kind_5 : decode b_Mod_kind 5 = .ok (.if_icmp .eq 32, 3) := by decide +kernel
theorem d_Mod_kind_8 : decode b_Mod_kind 8 = .ok (.iload_n 1, 1) := by decide +kernel
theorem d_Mod_kind_9 : decode b_Mod_kind 9 = .ok (.iconst (-1), 1) := by decide +kernel
theorem d_Mod_kind_10 : decode b_Mod_kind 10 = .ok (.if_icmp .lt 27, 3) := by decide +kernel
theorem d_Mod_kind_13 : decode b_Mod_kind 13 = .ok (.iload_n 1, 1) := by decide +kernel
theorem d_Mod_kind_14 : decode b_Mod_kind 14 = .ok (.aload_n 0, 1) := by decide +kernel
theorem d_Mod_kind_15 : decode b_Mod_kind 15 = .ok (.getfield 66, 3) := by decide +kernel
theorem d_Mod_kind_18 : decode b_Mod_kind 18 = .ok (.if_icmp .ge 19, 3) := by decide +kernel
theorem d_Mod_kind_21 : decode b_Mod_kind 21 = .ok (.iload_n 2, 1) := by decide +kernel
theorem d_Mod_kind_22 : decode b_Mod_kind 22 = .ok (.iconst 4, 1) := by decide +kernel
theorem d_Mod_kind_23 : decode b_Mod_kind 23 = .ok (.invokestatic 69, 3) := by decide +kernel
theorem d_Mod_kind_26 : decode b_Mod_kind 26 = .ok (.ifCond .eq 11, 3) := by decide +kernel
theorem d_Mod_kind_29 : decode b_Mod_kind 29 = .ok (.iload_n 3, 1) := by decide +kernel
theorem d_Mod_kind_30 : decode b_Mod_kind 30 = .ok (.iconst 4, 1) := by decide +kernel
theorem d_Mod_kind_31 : decode b_Mod_kind 31 = .ok (.invokestatic 69, 3) := by decide +kernel
theorem d_Mod_kind_34 : decode b_Mod_kind 34 = .ok (.ifCond .ne 5, 3) := by decide +kernel
theorem d_Mod_kind_37 : decode b_Mod_kind 37 = .ok (.iconst (-1), 1) := by decide +kernel
theorem d_Mod_kind_38 : decode b_Mod_kind 38 = .ok (.ireturn, 1) := by decide +kernel
theorem d_Mod_kind_39 : decode b_Mod_kind 39 = .ok (.iload_n 1, 1) := by decide +kernel
theorem d_Mod_kind_40 : decode b_Mod_kind 40 = .ok (.ifCond .lt 25, 3) := by decide +kernel
theorem d_Mod_kind_43 : decode b_Mod_kind 43 = .ok (.iload_n 2, 1) := by decide +kernel
theorem d_Mod_kind_44 : decode b_Mod_kind 44 = .ok (.aload_n 0, 1) := by decide +kernel
theorem d_Mod_kind_45 : decode b_Mod_kind 45 = .ok (.getfield 7, 3) := by decide +kernel
theorem d_Mod_kind_48 : decode b_Mod_kind 48 = .ok (.iload_n 1, 1) := by decide +kernel
theorem d_Mod_kind_49 : decode b_Mod_kind 49 = .ok (.iaload, 1) := by decide +kernel
theorem d_Mod_kind_50 : decode b_Mod_kind 50 = .ok (.if_icmp .lt 13, 3) := by decide +kernel
theorem d_Mod_kind_53 : decode b_Mod_kind 53 = .ok (.iload_n 3, 1) := by decide +kernel
theorem d_Mod_kind_54 : decode b_Mod_kind 54 = .ok (.aload_n 0, 1) := by decide +kernel
theorem d_Mod_kind_55 : decode b_Mod_kind 55 = .ok (.getfield 13, 3) := by decide +kernel
theorem d_Mod_kind_58 : decode b_Mod_kind 58 = .ok (.iload_n 1, 1) := by decide +kernel
theorem d_Mod_kind_59 : decode b_Mod_kind 59 = .ok (.iaload, 1) := by decide +kernel
theorem d_Mod_kind_60 : decode b_Mod_kind 60 = .ok (.if_icmp .ge 5, 3) := by decide +kernel
theorem d_Mod_kind_63 : decode b_Mod_kind 63 = .ok (.iconst (-1), 1) := by decide +kernel
theorem d_Mod_kind_64 : decode b_Mod_kind 64 = .ok (.ireturn, 1) := by decide +kernel
theorem d_Mod_kind_65 : decode b_Mod_kind 65 = .ok (.aload_n 0, 1) := by decide +kernel
theorem d_Mod_kind_66 : decode b_Mod_kind 66 = .ok (.getfield 7, 3) := by decide +kernel
theorem d_Mod_kind_69 : decode b_Mod_kind 69 = .ok (.aload_n 0, 1) := by decide +kernel
theorem d_Mod_kind_70 : decode b_Mod_kind 70 = .ok (.getfield 66, 3) := by decide +kernel
theorem d_Mod_kind_73 : decode b_Mod_kind 73 = .ok (.iload_n 2, 1) := by decide +kernel
theorem d_Mod_kind_74 : decode b_Mod_kind 74 = .ok (.iastore, 1) := by decide +kernel
theorem d_Mod_kind_75 : decode b_Mod_kind 75 = .ok (.aload_n 0, 1) := by decide +kernel
theorem d_Mod_kind_76 : decode b_Mod_kind 76 = .ok (.getfield 13, 3) := by decide +kernel
theorem d_Mod_kind_79 : decode b_Mod_kind 79 = .ok (.aload_n 0, 1) := by decide +kernel
theorem d_Mod_kind_80 : decode b_Mod_kind 80 = .ok (.getfield 66, 3) := by decide +kernel
theorem d_Mod_kind_83 : decode b_Mod_kind 83 = .ok (.iload_n 3, 1) := by decide +kernel
theorem d_Mod_kind_84 : decode b_Mod_kind 84 = .ok (.iastore, 1) := by decide +kernel
theorem d_Mod_kind_85 : decode b_Mod_kind 85 = .ok (.iconst 0, 1) := by decide +kernel
theorem d_Mod_kind_86 : decode b_Mod_kind 86 = .ok (.istore 4, 2) := by decide +kernel
theorem d_Mod_kind_88 : decode b_Mod_kind 88 = .ok (.iload 4, 2) := by decide +kernel
theorem d_Mod_kind_90 : decode b_Mod_kind 90 = .ok (.iconst 4, 1) := by decide +kernel
theorem d_Mod_kind_91 : decode b_Mod_kind 91 = .ok (.if_icmp .ge 42, 3) := by decide +kernel
theorem d_Mod_kind_94 : decode b_Mod_kind 94 = .ok (.aload_n 0, 1) := by decide +kernel
theorem d_Mod_kind_95 : decode b_Mod_kind 95 = .ok (.getfield 16, 3) := by decide +kernel
theorem d_Mod_kind_98 : decode b_Mod_kind 98 = .ok (.iconst 4, 1) := by decide +kernel
theorem d_Mod_kind_99 : decode b_Mod_kind 99 = .ok (.aload_n 0, 1) := by decide +kernel
theorem d_Mod_kind_100 : decode b_Mod_kind 100 = .ok (.getfield 66, 3) := by decide +kernel
theorem d_Mod_kind_103 : decode b_Mod_kind 103 = .ok (.imul, 1) := by decide +kernel
theorem d_Mod_kind_104 : decode b_Mod_kind 104 = .ok (.iload 4, 2) := by decide +kernel
theorem d_Mod_kind_106 : decode b_Mod_kind 106 = .ok (.iadd, 1) := by decide +kernel
theorem d_Mod_kind_107 : decode b_Mod_kind 107 = .ok (.iload_n 1, 1) := by decide +kernel
theorem d_Mod_kind_108 : decode b_Mod_kind 108 = .ok (.ifCond .ge 7, 3) := by decide +kernel
theorem d_Mod_kind_111 : decode b_Mod_kind 111 = .ok (.iconst (-1), 1) := by decide +kernel
theorem d_Mod_kind_112 : decode b_Mod_kind 112 = .ok (.goto 14, 3) := by decide +kernel
theorem d_Mod_kind_115 : decode b_Mod_kind 115 = .ok (.aload_n 0, 1) := by decide +kernel
theorem d_Mod_kind_116 : decode b_Mod_kind 116 = .ok (.getfield 16, 3) := by decide +kernel
theorem d_Mod_kind_119 : decode b_Mod_kind 119 = .ok (.iconst 4, 1) := by decide +kernel
theorem d_Mod_kind_120 : decode b_Mod_kind 120 = .ok (.iload_n 1, 1) := by decide +kernel
theorem d_Mod_kind_121 : decode b_Mod_kind 121 = .ok (.imul, 1) := by decide +kernel
theorem d_Mod_kind_122 : decode b_Mod_kind 122 = .ok (.iload 4, 2) := by decide +kernel
theorem d_Mod_kind_124 : decode b_Mod_kind 124 = .ok (.iadd, 1) := by decide +kernel
theorem d_Mod_kind_125 : decode b_Mod_kind 125 = .ok (.iaload, 1) := by decide +kernel
theorem d_Mod_kind_126 : decode b_Mod_kind 126 = .ok (.iastore, 1) := by decide +kernel
theorem d_Mod_kind_127 : decode b_Mod_kind 127 = .ok (.iinc 4 1, 3) := by decide +kernel
theorem d_Mod_kind_130 : decode b_Mod_kind 130 = .ok (.goto (-42), 3) := by decide +kernel
theorem d_Mod_kind_133 : decode b_Mod_kind 133 = .ok (.aload_n 0, 1) := by decide +kernel
theorem d_Mod_kind_134 : decode b_Mod_kind 134 = .ok (.dup, 1) := by decide +kernel
theorem d_Mod_kind_135 : decode b_Mod_kind 135 = .ok (.getfield 66, 3) := by decide +kernel
theorem d_Mod_kind_138 : decode b_Mod_kind 138 = .ok (.iconst 1, 1) := by decide +kernel
theorem d_Mod_kind_139 : decode b_Mod_kind 139 = .ok (.iadd, 1) := by decide +kernel
theorem d_Mod_kind_140 : decode b_Mod_kind 140 = .ok (.putfield 66, 3) := by decide +kernel
theorem d_Mod_kind_143 : decode b_Mod_kind 143 = .ok (.aload_n 0, 1) := by decide +kernel
theorem d_Mod_kind_144 : decode b_Mod_kind 144 = .ok (.getfield 66, 3) := by decide +kernel
theorem d_Mod_kind_147 : decode b_Mod_kind 147 = .ok (.iconst 1, 1) := by decide +kernel
theorem d_Mod_kind_148 : decode b_Mod_kind 148 = .ok (.isub, 1) := by decide +kernel
theorem d_Mod_kind_149 : decode b_Mod_kind 149 = .ok (.ireturn, 1) := by decide +kernel
abbrev rm_Mod_kind : Room := { frames := 1, cells := 0, slots := 0, locals := 21 }
set_option maxHeartbeats 4000000 in
set_option maxRecDepth 100000 in
theorem j_Mod_kind_B88_J126 {l : Launch} {dC : Nat → ClassId} {dI : Nat → Nat → Nat} {a : Nat → Nat} {cI cZ : ClassId} {pr : Program} {e : Env} {s : State} {m : MethodId} {args : Array Value} {below : List Frame} {meth : Method} {c : Code} {A : Nat → Prop} {ls : Array Slot} {H : Heap} {locs : List Loc} {σ : St} {x1 x4 s0 s1 : Int32} {q : Nat × (Int32 × St)} {Q : State → Prop} (C : Cx (dC, dI) clA (tyM cI cZ) SXm pr s m args meth c b_Mod_kind 5 y_Mod_kind.cls A) (h : fMod_kind_B88_J126 σ x1 x4 s0 s1 = some q) (hl : lv_has ls 5 [(0, .ref (a 0)), (1, .int x1), (4, .int x4)]) (hI : Wi (dC, dI) clA (wM a cI cZ σ) s A H locs) (kC : q.1 = 1 → ∀ (ls : Array Slot) (H : Heap) (locs : List Loc), lv_has ls 5 [(0, .ref (a 0)), (1, .int x1), (4, .int q.2.1)] → Wi (dC, dI) clA (wM a cI cZ q.2.2) s A H locs → W pr l e rm_Mod_kind s m args below meth c H locs 0 0 Q (F0 m 88 ls [])) (kX0 : q.1 = 0 → ∀ (ls : Array Slot) (H : Heap) (locs : List Loc), lv_has ls 5 [(0, .ref (a 0)), (1, .int x1), (4, .int q.2.1)] → Wi (dC, dI) clA (wM a cI cZ q.2.2) s A H locs → W pr l e rm_Mod_kind s m args below meth c H locs 0 0 Q (F0 m 133 ls [])) : W pr l e rm_Mod_kind s m args below meth c H locs 0 0 Q (F0 m 126 ls [.int s0, .int s1, .ref (a 3)]) := by
  have hx := C.1
  have hb := C.2.1
  unfold fMod_kind_B88_J126 at h
  obtain ⟨hg126, h⟩ := of_guard h
  refine as_M_2 C hI (σ' := (σ.1, va_up σ.2 2 (upd (σ.2 2) s1.toNatClampNeg s0))) rfl hg126 d_Mod_kind_126 (fun H locs hI => ?_)
  refine lv_iinc (k := 2) (v := x4 + 1) (lv' := [(4, .int (x4 + 1)), (0, .ref (a 0)), (1, .int x1)]) hx hb d_Mod_kind_127 hl rfl rfl (by decide) rfl (fun ls hl => ?_)
  refine lv_goto (tgt := 88) hx hb d_Mod_kind_130 (by decide) ?_
  replace h := Option.some.inj h
  subst h
  exact kC rfl _ _ _ (lv_sub hl [1, 2, 0] rfl) hI
set_option maxHeartbeats 4000000 in
set_option maxRecDepth 100000 in
theorem b_Mod_kind_B88 {l : Launch} {dC : Nat → ClassId} {dI : Nat → Nat → Nat} {a : Nat → Nat} {cI cZ : ClassId} {pr : Program} {e : Env} {s : State} {m : MethodId} {args : Array Value} {below : List Frame} {meth : Method} {c : Code} {A : Nat → Prop} {ls : Array Slot} {H : Heap} {locs : List Loc} {x1 : Int32} {s0 : Int32 × St} {q : Nat × (Int32 × St)} {Q : State → Prop} (C : Cx (dC, dI) clA (tyM cI cZ) SXm pr s m args meth c b_Mod_kind 5 y_Mod_kind.cls A) (h : fMod_kind_B88 x1 s0 = some q) (hl : lv_has ls 5 [(0, .ref (a 0)), (1, .int x1), (4, .int s0.1)]) (hI : Wi (dC, dI) clA (wM a cI cZ s0.2) s A H locs) (kC : q.1 = 1 → ∀ (ls : Array Slot) (H : Heap) (locs : List Loc), lv_has ls 5 [(0, .ref (a 0)), (1, .int x1), (4, .int q.2.1)] → Wi (dC, dI) clA (wM a cI cZ q.2.2) s A H locs → W pr l e rm_Mod_kind s m args below meth c H locs 0 0 Q (F0 m 88 ls [])) (kX0 : q.1 = 0 → ∀ (ls : Array Slot) (H : Heap) (locs : List Loc), lv_has ls 5 [(0, .ref (a 0)), (1, .int x1), (4, .int q.2.1)] → Wi (dC, dI) clA (wM a cI cZ q.2.2) s A H locs → W pr l e rm_Mod_kind s m args below meth c H locs 0 0 Q (F0 m 133 ls [])) : W pr l e rm_Mod_kind s m args below meth c H locs 0 0 Q (F0 m 88 ls []) := by
  have hx := C.1
  have hb := C.2.1
  unfold fMod_kind_B88 at h
  refine lv_iload hx hb d_Mod_kind_88 (lv_at hl 2 rfl) ?_
  refine lv_iconst (v := 4) hx hb d_Mod_kind_90 (by decide) ?_
  refine lv_icmp_ge (tgt := 133) hx hb d_Mod_kind_91 (by decide) (fun hc => ?_) (fun hc => ?_)
  · replace h := of_pos hc h
    replace h := Option.some.inj h
    subst h
    exact kX0 rfl _ _ _ (lv_sub hl [0, 1, 2] rfl) hI
  · replace h := of_neg hc h
    refine lv_aload_n hx hb d_Mod_kind_94 rfl (lv_at hl 0 rfl) ?_
    refine gf_Mod_16 C hI d_Mod_kind_95 ?_
    refine lv_iconst (v := 4) hx hb d_Mod_kind_98 (by decide) ?_
    refine lv_aload_n hx hb d_Mod_kind_99 rfl (lv_at hl 0 rfl) ?_
    refine gf_Mod_66 C hI (v := s0.2.1 2) rfl d_Mod_kind_100 ?_
    refine lv_imul hx hb d_Mod_kind_103 ?_
    refine lv_iload hx hb d_Mod_kind_104 (lv_at hl 2 rfl) ?_
    refine lv_iadd hx hb d_Mod_kind_106 ?_
    refine lv_iload_n hx hb d_Mod_kind_107 rfl (lv_at hl 1 rfl) ?_
    refine lv_if_ge (tgt := 115) hx hb d_Mod_kind_108 (by decide) (fun hc => ?_) (fun hc => ?_)
    · replace h := of_pos hc h
      refine lv_aload_n hx hb d_Mod_kind_115 rfl (lv_at hl 0 rfl) ?_
      refine gf_Mod_16 C hI d_Mod_kind_116 ?_
      refine lv_iconst (v := 4) hx hb d_Mod_kind_119 (by decide) ?_
      refine lv_iload_n hx hb d_Mod_kind_120 rfl (lv_at hl 1 rfl) ?_
      refine lv_imul hx hb d_Mod_kind_121 ?_
      refine lv_iload hx hb d_Mod_kind_122 (lv_at hl 2 rfl) ?_
      refine lv_iadd hx hb d_Mod_kind_124 ?_
      obtain ⟨hg125, h⟩ := of_guard h
      refine al_M_2 C hI (f := s0.2.2 2) rfl hg125 d_Mod_kind_125 ?_
      exact j_Mod_kind_B88_J126 C h (lv_sub hl [0, 1, 2] rfl) hI kC kX0
    · replace h := of_neg hc h
      refine lv_iconst (v := (-1)) hx hb d_Mod_kind_111 (by decide) ?_
      refine lv_goto (tgt := 126) hx hb d_Mod_kind_112 (by decide) ?_
      exact j_Mod_kind_B88_J126 C h (lv_sub hl [0, 1, 2] rfl) hI kC kX0
set_option maxHeartbeats 4000000 in
set_option maxRecDepth 100000 in
theorem l_Mod_kind_B88 {l : Launch} {dC : Nat → ClassId} {dI : Nat → Nat → Nat} {a : Nat → Nat} {cI cZ : ClassId} {pr : Program} {e : Env} {s : State} {m : MethodId} {args : Array Value} {below : List Frame} {meth : Method} {c : Code} {A : Nat → Prop} {x1 : Int32} {Q : State → Prop} (C : Cx (dC, dI) clA (tyM cI cZ) SXm pr s m args meth c b_Mod_kind 5 y_Mod_kind.cls A) : ∀ (k : Nat) (s0 : Int32 × St) (q : Nat × (Int32 × St)) (ls : Array Slot) (H : Heap) (locs : List Loc), rbLoop (fMod_kind_B88 x1) k s0 = some q → lv_has ls 5 [(0, .ref (a 0)), (1, .int x1), (4, .int s0.1)] → Wi (dC, dI) clA (wM a cI cZ s0.2) s A H locs → (q.1 = 0 → ∀ (ls : Array Slot) (H : Heap) (locs : List Loc), lv_has ls 5 [(0, .ref (a 0)), (1, .int x1), (4, .int q.2.1)] → Wi (dC, dI) clA (wM a cI cZ q.2.2) s A H locs → W pr l e rm_Mod_kind s m args below meth c H locs 0 0 Q (F0 m 133 ls [])) → W pr l e rm_Mod_kind s m args below meth c H locs 0 0 Q (F0 m 88 ls []) := by
  intro k
  induction k with
  | zero => intro s0 q ls H locs h; cases h
  | succ k ih =>
    intro s0 q ls H locs h hl hI kX0
    obtain ⟨q1, hq1, h⟩ := rbLoop_succ h
    by_cases hc : q1.1 = 1
    · replace h := of_pos hc h
      refine b_Mod_kind_B88 C hq1 hl hI (fun _ ls H locs hl hI => ih _ _ _ _ _ h hl hI kX0) (fun hz => absurd (hc.symm.trans hz) (by decide))
    · replace h := of_neg hc h
      cases h
      exact b_Mod_kind_B88 C hq1 hl hI (fun hz => absurd hz hc) kX0
set_option maxHeartbeats 4000000 in
set_option maxRecDepth 100000 in
theorem j_Mod_kind_J65 {l : Launch} {dC : Nat → ClassId} {dI : Nat → Nat → Nat} {a : Nat → Nat} {cI cZ : ClassId} {pr : Program} {e : Env} {s : State} {m : MethodId} {args : Array Value} {below : List Frame} {meth : Method} {c : Code} {A : Nat → Prop} {ls : Array Slot} {H : Heap} {locs : List Loc} {σ : St} {x1 x2 x3 : Int32} {q : Int32 × St} (C : Cx (dC, dI) clA (tyM cI cZ) SXm pr s m args meth c b_Mod_kind 5 y_Mod_kind.cls A) (hr : meth.sig.returnType = (some .int)) (h : fMod_kind_J65 σ x1 x2 x3 = some q) (hl : lv_has ls 5 [(0, .ref (a 0)), (1, .int x1), (2, .int x2), (3, .int x3)]) (hI : Wi (dC, dI) clA (wM a cI cZ σ) s A H locs)  : W pr l e rm_Mod_kind s m args below meth c H locs 0 0 (MQ below (rb_Qi (dC, dI) clA (tyM cI cZ) (wM a cI cZ q.2) q.1 A) args s 0 0 A) (F0 m 65 ls []) := by
  have hx := C.1
  have hb := C.2.1
  unfold fMod_kind_J65 at h
  refine lv_aload_n hx hb d_Mod_kind_65 rfl (lv_at hl 0 rfl) ?_
  refine gf_Mod_7 C hI d_Mod_kind_66 ?_
  refine lv_aload_n hx hb d_Mod_kind_69 rfl (lv_at hl 0 rfl) ?_
  refine gf_Mod_66 C hI (v := σ.1 2) rfl d_Mod_kind_70 ?_
  refine lv_iload_n hx hb d_Mod_kind_73 rfl (lv_at hl 2 rfl) ?_
  obtain ⟨hg74, h⟩ := of_guard h
  refine as_M_0 C hI (σ' := (σ.1, va_up σ.2 0 (upd (σ.2 0) (σ.1 2).toNatClampNeg x2))) rfl hg74 d_Mod_kind_74 (fun H locs hI => ?_)
  refine lv_aload_n hx hb d_Mod_kind_75 rfl (lv_at hl 0 rfl) ?_
  refine gf_Mod_13 C hI d_Mod_kind_76 ?_
  refine lv_aload_n hx hb d_Mod_kind_79 rfl (lv_at hl 0 rfl) ?_
  refine gf_Mod_66 C hI (v := σ.1 2) rfl d_Mod_kind_80 ?_
  refine lv_iload_n hx hb d_Mod_kind_83 rfl (lv_at hl 3 rfl) ?_
  obtain ⟨hg84, h⟩ := of_guard h
  refine as_M_1 C hI (σ' := (σ.1, va_up (va_up σ.2 0 (upd (σ.2 0) (σ.1 2).toNatClampNeg x2)) 1 (upd (σ.2 1) (σ.1 2).toNatClampNeg x3))) rfl hg84 d_Mod_kind_84 (fun H locs hI => ?_)
  refine lv_iconst (v := 0) hx hb d_Mod_kind_85 (by decide) ?_
  refine lv_istore (lv' := [(4, .int 0), (0, .ref (a 0)), (1, .int x1), (2, .int x2), (3, .int x3)]) hx hb d_Mod_kind_86 hl (by decide) rfl (fun ls hl => ?_)
  obtain ⟨q88, hq88, h⟩ := of_bind h
  refine l_Mod_kind_B88 C _ _ _ _ _ _ hq88 (lv_sub hl [1, 2, 0] rfl) hI ?_
  intro _ ls H locs hl hI
  refine lv_aload_n hx hb d_Mod_kind_133 rfl (lv_at hl 0 rfl) ?_
  refine lv_dup hx hb d_Mod_kind_134 rfl ?_
  refine gf_Mod_66 C hI (v := q88.2.2.1 2) rfl d_Mod_kind_135 ?_
  refine lv_iconst (v := 1) hx hb d_Mod_kind_138 (by decide) ?_
  refine lv_iadd hx hb d_Mod_kind_139 ?_
  refine pf_Mod_66 C hI (σ' := (upd q88.2.2.1 2 ((q88.2.2.1 2) + 1), q88.2.2.2)) rfl d_Mod_kind_140 (fun H locs hI => ?_)
  refine lv_aload_n hx hb d_Mod_kind_143 rfl (lv_at hl 0 rfl) ?_
  refine gf_Mod_66 C hI (v := (q88.2.2.1 2) + 1) rfl d_Mod_kind_144 ?_
  refine lv_iconst (v := 1) hx hb d_Mod_kind_147 (by decide) ?_
  refine lv_isub hx hb d_Mod_kind_148 ?_
  replace h := Option.some.inj h
  subst h
  exact rb_retI C hr hI d_Mod_kind_149
set_option maxHeartbeats 4000000 in
set_option maxRecDepth 100000 in
theorem c_Mod_kind {l : Launch} {dC : Nat → ClassId} {dI : Nat → Nat → Nat} {a : Nat → Nat} {cI cZ : ClassId} {σ : St} {x1 x2 x3 : Int32} {q : Int32 × St} (h : fMod_kind σ x1 x2 x3 = some q) : CI l (dC, dI) clA (tyM cI cZ) SXm (wM a cI cZ σ) (wM a cI cZ q.2) y_Mod_kind b_Mod_kind 5 (some .int) rm_Mod_kind [.ref (a 0), .int x1, .int x2, .int x3] q.1 := by
  refine CI_of (by decide) (Nat.le_of_ble_eq_true rfl) ?_
  intro pr e s m below meth c A ls C hr hl hI
  have hx := C.1
  have hb := C.2.1
  have hl : lv_has ls 5 [(0, .ref (a 0)), (1, .int x1), (2, .int x2), (3, .int x3)] := hl
  unfold fMod_kind at h
  refine lv_aload_n hx hb d_Mod_kind_0 rfl (lv_at hl 0 rfl) ?_
  refine gf_Mod_66 C hI (v := σ.1 2) rfl d_Mod_kind_1 ?_
  refine lv_iconst (v := 4) hx hb d_Mod_kind_4 (by decide) ?_
  refine lv_icmp_eq (tgt := 37) hx hb d_Mod_kind_5 (by decide) (fun hc => ?_) (fun hc => ?_)
  · replace h := of_pos hc h
    refine lv_iconst (v := (-1)) hx hb d_Mod_kind_37 (by decide) ?_
    replace h := Option.some.inj h
    subst h
    exact rb_retI C hr hI d_Mod_kind_38
  · replace h := of_neg hc h
    refine lv_iload_n hx hb d_Mod_kind_8 rfl (lv_at hl 1 rfl) ?_
    refine lv_iconst (v := (-1)) hx hb d_Mod_kind_9 (by decide) ?_
    refine lv_icmp_lt (tgt := 37) hx hb d_Mod_kind_10 (by decide) (fun hc => ?_) (fun hc => ?_)
    · replace h := of_pos hc h
      refine lv_iconst (v := (-1)) hx hb d_Mod_kind_37 (by decide) ?_
      replace h := Option.some.inj h
      subst h
      exact rb_retI C hr hI d_Mod_kind_38
    · replace h := of_neg hc h
      refine lv_iload_n hx hb d_Mod_kind_13 rfl (lv_at hl 1 rfl) ?_
      refine lv_aload_n hx hb d_Mod_kind_14 rfl (lv_at hl 0 rfl) ?_
      refine gf_Mod_66 C hI (v := σ.1 2) rfl d_Mod_kind_15 ?_
      refine lv_icmp_ge (tgt := 37) hx hb d_Mod_kind_18 (by decide) (fun hc => ?_) (fun hc => ?_)
      · replace h := of_pos hc h
        refine lv_iconst (v := (-1)) hx hb d_Mod_kind_37 (by decide) ?_
        replace h := Option.some.inj h
        subst h
        exact rb_retI C hr hI d_Mod_kind_38
      · replace h := of_neg hc h
        refine lv_iload_n hx hb d_Mod_kind_21 rfl (lv_at hl 2 rfl) ?_
        refine lv_iconst (v := 4) hx hb d_Mod_kind_22 (by decide) ?_
        obtain ⟨p23, hp23, h⟩ := of_bind h
        refine rb_callSI smok C (c_Mod_below hp23) cw_Mod_69 ⟨Nat.le_of_ble_eq_true rfl, Nat.le_of_ble_eq_true rfl⟩ ⟨rfl, rfl⟩ hI ⟨Nat.zero_le _, Nat.zero_le _⟩ (As := [.int x2, .int 4]) rfl hl.1 (rest := []) (Nat.le_of_ble_eq_true rfl) rfl d_Mod_kind_23 (fun H locs hI => ?_)
        refine lv_if_eq (tgt := 37) hx hb d_Mod_kind_26 (by decide) (fun hc => ?_) (fun hc => ?_)
        · replace h := of_pos hc h
          refine lv_iconst (v := (-1)) hx hb d_Mod_kind_37 (by decide) ?_
          replace h := Option.some.inj h
          subst h
          exact rb_retI C hr hI d_Mod_kind_38
        · replace h := of_neg hc h
          refine lv_iload_n hx hb d_Mod_kind_29 rfl (lv_at hl 3 rfl) ?_
          refine lv_iconst (v := 4) hx hb d_Mod_kind_30 (by decide) ?_
          obtain ⟨p31, hp31, h⟩ := of_bind h
          refine rb_callSI smok C (c_Mod_below hp31) cw_Mod_69 ⟨Nat.le_of_ble_eq_true rfl, Nat.le_of_ble_eq_true rfl⟩ ⟨rfl, rfl⟩ hI ⟨Nat.zero_le _, Nat.zero_le _⟩ (As := [.int x3, .int 4]) rfl hl.1 (rest := []) (Nat.le_of_ble_eq_true rfl) rfl d_Mod_kind_31 (fun H locs hI => ?_)
          refine lv_if_ne (tgt := 39) hx hb d_Mod_kind_34 (by decide) (fun hc => ?_) (fun hc => ?_)
          · replace h := of_neg hc h
            refine lv_iload_n hx hb d_Mod_kind_39 rfl (lv_at hl 1 rfl) ?_
            refine lv_if_lt (tgt := 65) hx hb d_Mod_kind_40 (by decide) (fun hc => ?_) (fun hc => ?_)
            · replace h := of_pos hc h
              exact j_Mod_kind_J65 C hr h (lv_sub hl [0, 1, 2, 3] rfl) hI
            · replace h := of_neg hc h
              refine lv_iload_n hx hb d_Mod_kind_43 rfl (lv_at hl 2 rfl) ?_
              refine lv_aload_n hx hb d_Mod_kind_44 rfl (lv_at hl 0 rfl) ?_
              refine gf_Mod_7 C hI d_Mod_kind_45 ?_
              refine lv_iload_n hx hb d_Mod_kind_48 rfl (lv_at hl 1 rfl) ?_
              obtain ⟨hg49, h⟩ := of_guard h
              refine al_M_0 C hI (f := p31.2.2 0) rfl hg49 d_Mod_kind_49 ?_
              refine lv_icmp_lt (tgt := 63) hx hb d_Mod_kind_50 (by decide) (fun hc => ?_) (fun hc => ?_)
              · replace h := of_pos hc h
                refine lv_iconst (v := (-1)) hx hb d_Mod_kind_63 (by decide) ?_
                replace h := Option.some.inj h
                subst h
                exact rb_retI C hr hI d_Mod_kind_64
              · replace h := of_neg hc h
                refine lv_iload_n hx hb d_Mod_kind_53 rfl (lv_at hl 3 rfl) ?_
                refine lv_aload_n hx hb d_Mod_kind_54 rfl (lv_at hl 0 rfl) ?_
                refine gf_Mod_13 C hI d_Mod_kind_55 ?_
                refine lv_iload_n hx hb d_Mod_kind_58 rfl (lv_at hl 1 rfl) ?_
                obtain ⟨hg59, h⟩ := of_guard h
                refine al_M_1 C hI (f := p31.2.2 1) rfl hg59 d_Mod_kind_59 ?_
                refine lv_icmp_ge (tgt := 65) hx hb d_Mod_kind_60 (by decide) (fun hc => ?_) (fun hc => ?_)
                · replace h := of_pos hc h
                  exact j_Mod_kind_J65 C hr h (lv_sub hl [0, 1, 2, 3] rfl) hI
                · replace h := of_neg hc h
                  refine lv_iconst (v := (-1)) hx hb d_Mod_kind_63 (by decide) ?_
                  replace h := Option.some.inj h
                  subst h
                  exact rb_retI C hr hI d_Mod_kind_64
          · replace h := of_pos hc h
            refine lv_iconst (v := (-1)) hx hb d_Mod_kind_37 (by decide) ?_
            replace h := Option.some.inj h
            subst h
            exact rb_retI C hr hI d_Mod_kind_38
theorem d_Mod_finished_0 : decode b_Mod_finished 0 = .ok (.iload_n 1, 1) := by decide +kernel
theorem d_Mod_finished_1 : decode b_Mod_finished 1 = .ok (.aload_n 0, 1) := by decide +kernel
theorem d_Mod_finished_2 : decode b_Mod_finished 2 = .ok (.getfield 73, 3) := by decide +kernel
theorem d_Mod_finished_5 : decode b_Mod_finished 5 = .ok (.ifCond .eq 12, 3) := by decide +kernel
theorem d_Mod_finished_8 : decode b_Mod_finished 8 = .ok (.aload_n 0, 1) := by decide +kernel
theorem d_Mod_finished_9 : decode b_Mod_finished 9 = .ok (.getfield 77, 3) := by decide +kernel
theorem d_Mod_finished_12 : decode b_Mod_finished 12 = .ok (.iconst 1, 1) := by decide +kernel
theorem d_Mod_finished_13 : decode b_Mod_finished 13 = .ok (.isub, 1) := by decide +kernel
theorem d_Mod_finished_14 : decode b_Mod_finished 14 = .ok (.goto 7, 3) := by decide +kernel
theorem d_Mod_finished_17 : decode b_Mod_finished 17 = .ok (.aload_n 0, 1) := by decide +kernel
theorem d_Mod_finished_18 : decode b_Mod_finished 18 = .ok (.getfield 77, 3) := by decide +kernel
theorem d_Mod_finished_21 : decode b_Mod_finished 21 = .ok (.invokestatic 69, 3) := by decide +kernel
theorem d_Mod_finished_24 : decode b_Mod_finished 24 = .ok (.ireturn, 1) := by decide +kernel
abbrev rm_Mod_finished : Room := { frames := 1, cells := 0, slots := 0, locals := 21 }
set_option maxHeartbeats 4000000 in
set_option maxRecDepth 100000 in
theorem c_Mod_finished {l : Launch} {dC : Nat → ClassId} {dI : Nat → Nat → Nat} {a : Nat → Nat} {cI cZ : ClassId} {σ : St} {x1 : Int32} {q : Int32 × St} (h : fMod_finished σ x1 = some q) : CI l (dC, dI) clA (tyM cI cZ) SXm (wM a cI cZ σ) (wM a cI cZ q.2) y_Mod_finished b_Mod_finished 2 (some .boolean) rm_Mod_finished [.ref (a 0), .int x1] q.1 := by
  refine CI_of (by decide) (Nat.le_of_ble_eq_true rfl) ?_
  intro pr e s m below meth c A ls C hr hl hI
  have hx := C.1
  have hb := C.2.1
  have hl : lv_has ls 2 [(0, .ref (a 0)), (1, .int x1)] := hl
  unfold fMod_finished at h
  refine lv_iload_n hx hb d_Mod_finished_0 rfl (lv_at hl 1 rfl) ?_
  refine lv_aload_n hx hb d_Mod_finished_1 rfl (lv_at hl 0 rfl) ?_
  refine gf_Mod_73 C hI (v := σ.1 4) rfl d_Mod_finished_2 ?_
  refine lv_if_eq (tgt := 17) hx hb d_Mod_finished_5 (by decide) (fun hc => ?_) (fun hc => ?_)
  · replace h := of_pos hc h
    refine lv_aload_n hx hb d_Mod_finished_17 rfl (lv_at hl 0 rfl) ?_
    refine gf_Mod_77 C hI (v := σ.1 3) rfl d_Mod_finished_18 ?_
    obtain ⟨p21, hp21, h⟩ := of_bind h
    refine rb_callSI smok C (c_Mod_below hp21) cw_Mod_69 ⟨Nat.le_of_ble_eq_true rfl, Nat.le_of_ble_eq_true rfl⟩ ⟨rfl, rfl⟩ hI ⟨Nat.zero_le _, Nat.zero_le _⟩ (As := [.int x1, .int (σ.1 3)]) rfl hl.1 (rest := []) (Nat.le_of_ble_eq_true rfl) rfl d_Mod_finished_21 (fun H locs hI => ?_)
    obtain ⟨hg, h⟩ := of_guard h
    replace h := Option.some.inj h
    subst h
    exact rb_retZ C hr hg hI d_Mod_finished_24
  · replace h := of_neg hc h
    refine lv_aload_n hx hb d_Mod_finished_8 rfl (lv_at hl 0 rfl) ?_
    refine gf_Mod_77 C hI (v := σ.1 3) rfl d_Mod_finished_9 ?_
    refine lv_iconst (v := 1) hx hb d_Mod_finished_12 (by decide) ?_
    refine lv_isub hx hb d_Mod_finished_13 ?_
    refine lv_goto (tgt := 21) hx hb d_Mod_finished_14 (by decide) ?_
    obtain ⟨p21, hp21, h⟩ := of_bind h
    refine rb_callSI smok C (c_Mod_below hp21) cw_Mod_69 ⟨Nat.le_of_ble_eq_true rfl, Nat.le_of_ble_eq_true rfl⟩ ⟨rfl, rfl⟩ hI ⟨Nat.zero_le _, Nat.zero_le _⟩ (As := [.int x1, .int ((σ.1 3) - 1)]) rfl hl.1 (rest := []) (Nat.le_of_ble_eq_true rfl) rfl d_Mod_finished_21 (fun H locs hI => ?_)
    obtain ⟨hg, h⟩ := of_guard h
    replace h := Option.some.inj h
    subst h
    exact rb_retZ C hr hg hI d_Mod_finished_24
theorem d_Mod_bind_0 : decode b_Mod_bind 0 = .ok (.iload_n 1, 1) := by decide +kernel
theorem d_Mod_bind_1 : decode b_Mod_bind 1 = .ok (.aload_n 0, 1) := by decide +kernel
theorem d_Mod_bind_2 : decode b_Mod_bind 2 = .ok (.getfield 66, 3) := by decide +kernel
theorem d_Mod_bind_5 : decode b_Mod_bind 5 = .ok (.invokestatic 69, 3) := by decide +kernel
theorem d_Mod_bind_8 : decode b_Mod_bind 8 = .ok (.ifCond .eq 19, 3) := by decide +kernel
theorem d_Mod_bind_11 : decode b_Mod_bind 11 = .ok (.iload_n 2, 1) := by decide +kernel
theorem d_Mod_bind_12 : decode b_Mod_bind 12 = .ok (.iconst 4, 1) := by decide +kernel
theorem d_Mod_bind_13 : decode b_Mod_bind 13 = .ok (.invokestatic 69, 3) := by decide +kernel
theorem d_Mod_bind_16 : decode b_Mod_bind 16 = .ok (.ifCond .eq 11, 3) := by decide +kernel
theorem d_Mod_bind_19 : decode b_Mod_bind 19 = .ok (.aload_n 0, 1) := by decide +kernel
theorem d_Mod_bind_20 : decode b_Mod_bind 20 = .ok (.iload_n 3, 1) := by decide +kernel
theorem d_Mod_bind_21 : decode b_Mod_bind 21 = .ok (.invokevirtual 80, 3) := by decide +kernel
theorem d_Mod_bind_24 : decode b_Mod_bind 24 = .ok (.ifCond .ne 5, 3) := by decide +kernel
theorem d_Mod_bind_27 : decode b_Mod_bind 27 = .ok (.iconst 0, 1) := by decide +kernel
theorem d_Mod_bind_28 : decode b_Mod_bind 28 = .ok (.ireturn, 1) := by decide +kernel
theorem d_Mod_bind_29 : decode b_Mod_bind 29 = .ok (.aload_n 0, 1) := by decide +kernel
theorem d_Mod_bind_30 : decode b_Mod_bind 30 = .ok (.getfield 16, 3) := by decide +kernel
theorem d_Mod_bind_33 : decode b_Mod_bind 33 = .ok (.iconst 4, 1) := by decide +kernel
theorem d_Mod_bind_34 : decode b_Mod_bind 34 = .ok (.iload_n 1, 1) := by decide +kernel
theorem d_Mod_bind_35 : decode b_Mod_bind 35 = .ok (.imul, 1) := by decide +kernel
theorem d_Mod_bind_36 : decode b_Mod_bind 36 = .ok (.iload_n 2, 1) := by decide +kernel
theorem d_Mod_bind_37 : decode b_Mod_bind 37 = .ok (.iadd, 1) := by decide +kernel
theorem d_Mod_bind_38 : decode b_Mod_bind 38 = .ok (.iload_n 3, 1) := by decide +kernel
theorem d_Mod_bind_39 : decode b_Mod_bind 39 = .ok (.iastore, 1) := by decide +kernel
theorem d_Mod_bind_40 : decode b_Mod_bind 40 = .ok (.iconst 1, 1) := by decide +kernel
theorem d_Mod_bind_41 : decode b_Mod_bind 41 = .ok (.ireturn, 1) := by decide +kernel
abbrev rm_Mod_bind : Room := { frames := 2, cells := 0, slots := 0, locals := 42 }
set_option maxHeartbeats 4000000 in
set_option maxRecDepth 100000 in
theorem c_Mod_bind {l : Launch} {dC : Nat → ClassId} {dI : Nat → Nat → Nat} {a : Nat → Nat} {cI cZ : ClassId} {σ : St} {x1 x2 x3 : Int32} {q : Int32 × St} (h : fMod_bind σ x1 x2 x3 = some q) : CI l (dC, dI) clA (tyM cI cZ) SXm (wM a cI cZ σ) (wM a cI cZ q.2) y_Mod_bind b_Mod_bind 4 (some .boolean) rm_Mod_bind [.ref (a 0), .int x1, .int x2, .int x3] q.1 := by
  refine CI_of (by decide) (Nat.le_of_ble_eq_true rfl) ?_
  intro pr e s m below meth c A ls C hr hl hI
  have hx := C.1
  have hb := C.2.1
  have hl : lv_has ls 4 [(0, .ref (a 0)), (1, .int x1), (2, .int x2), (3, .int x3)] := hl
  unfold fMod_bind at h
  refine lv_iload_n hx hb d_Mod_bind_0 rfl (lv_at hl 1 rfl) ?_
  refine lv_aload_n hx hb d_Mod_bind_1 rfl (lv_at hl 0 rfl) ?_
  refine gf_Mod_66 C hI (v := σ.1 2) rfl d_Mod_bind_2 ?_
  obtain ⟨p5, hp5, h⟩ := of_bind h
  refine rb_callSI smok C (c_Mod_below hp5) cw_Mod_69 ⟨Nat.le_of_ble_eq_true rfl, Nat.le_of_ble_eq_true rfl⟩ ⟨rfl, rfl⟩ hI ⟨Nat.zero_le _, Nat.zero_le _⟩ (As := [.int x1, .int (σ.1 2)]) rfl hl.1 (rest := []) (Nat.le_of_ble_eq_true rfl) rfl d_Mod_bind_5 (fun H locs hI => ?_)
  refine lv_if_eq (tgt := 27) hx hb d_Mod_bind_8 (by decide) (fun hc => ?_) (fun hc => ?_)
  · replace h := of_pos hc h
    refine lv_iconst (v := 0) hx hb d_Mod_bind_27 (by decide) ?_
    replace h := Option.some.inj h
    subst h
    exact rb_retZ C hr (Or.inl rfl) hI d_Mod_bind_28
  · replace h := of_neg hc h
    refine lv_iload_n hx hb d_Mod_bind_11 rfl (lv_at hl 2 rfl) ?_
    refine lv_iconst (v := 4) hx hb d_Mod_bind_12 (by decide) ?_
    obtain ⟨p13, hp13, h⟩ := of_bind h
    refine rb_callSI smok C (c_Mod_below hp13) cw_Mod_69 ⟨Nat.le_of_ble_eq_true rfl, Nat.le_of_ble_eq_true rfl⟩ ⟨rfl, rfl⟩ hI ⟨Nat.zero_le _, Nat.zero_le _⟩ (As := [.int x2, .int 4]) rfl hl.1 (rest := []) (Nat.le_of_ble_eq_true rfl) rfl d_Mod_bind_13 (fun H locs hI => ?_)
    refine lv_if_eq (tgt := 27) hx hb d_Mod_bind_16 (by decide) (fun hc => ?_) (fun hc => ?_)
    · replace h := of_pos hc h
      refine lv_iconst (v := 0) hx hb d_Mod_bind_27 (by decide) ?_
      replace h := Option.some.inj h
      subst h
      exact rb_retZ C hr (Or.inl rfl) hI d_Mod_bind_28
    · replace h := of_neg hc h
      refine lv_aload_n hx hb d_Mod_bind_19 rfl (lv_at hl 0 rfl) ?_
      refine lv_iload_n hx hb d_Mod_bind_20 rfl (lv_at hl 3 rfl) ?_
      obtain ⟨p21, hp21, h⟩ := of_bind h
      refine rb_callI smok C (c_Mod_finished hp21) cw_Mod_80 ⟨Nat.le_of_ble_eq_true rfl, Nat.le_of_ble_eq_true rfl⟩ ⟨rfl, rfl⟩ (q0 := 0) (ci := 4) rfl rfl hI ⟨Nat.zero_le _, Nat.zero_le _⟩ (As := [.int x3]) rfl hl.1 (rest := []) (Nat.le_of_ble_eq_true rfl) rfl d_Mod_bind_21 (fun H locs hI => ?_)
      refine lv_if_ne (tgt := 29) hx hb d_Mod_bind_24 (by decide) (fun hc => ?_) (fun hc => ?_)
      · replace h := of_neg hc h
        refine lv_aload_n hx hb d_Mod_bind_29 rfl (lv_at hl 0 rfl) ?_
        refine gf_Mod_16 C hI d_Mod_bind_30 ?_
        refine lv_iconst (v := 4) hx hb d_Mod_bind_33 (by decide) ?_
        refine lv_iload_n hx hb d_Mod_bind_34 rfl (lv_at hl 1 rfl) ?_
        refine lv_imul hx hb d_Mod_bind_35 ?_
        refine lv_iload_n hx hb d_Mod_bind_36 rfl (lv_at hl 2 rfl) ?_
        refine lv_iadd hx hb d_Mod_bind_37 ?_
        refine lv_iload_n hx hb d_Mod_bind_38 rfl (lv_at hl 3 rfl) ?_
        obtain ⟨hg39, h⟩ := of_guard h
        refine as_M_2 C hI (σ' := (p21.2.1, va_up p21.2.2 2 (upd (p21.2.2 2) (((4 : Int32) * x1) + x2).toNatClampNeg x3))) rfl hg39 d_Mod_bind_39 (fun H locs hI => ?_)
        refine lv_iconst (v := 1) hx hb d_Mod_bind_40 (by decide) ?_
        replace h := Option.some.inj h
        subst h
        exact rb_retZ C hr (Or.inr rfl) hI d_Mod_bind_41
      · replace h := of_pos hc h
        refine lv_iconst (v := 0) hx hb d_Mod_bind_27 (by decide) ?_
        replace h := Option.some.inj h
        subst h
        exact rb_retZ C hr (Or.inl rfl) hI d_Mod_bind_28
theorem d_Mod_method_0 : decode b_Mod_method 0 = .ok (.aload_n 0, 1) := by decide +kernel
theorem d_Mod_method_1 : decode b_Mod_method 1 = .ok (.getfield 73, 3) := by decide +kernel
theorem d_Mod_method_4 : decode b_Mod_method 4 = .ok (.ifCond .ne 23, 3) := by decide +kernel
theorem d_Mod_method_7 : decode b_Mod_method 7 = .ok (.aload_n 0, 1) := by decide +kernel
theorem d_Mod_method_8 : decode b_Mod_method 8 = .ok (.getfield 77, 3) := by decide +kernel
theorem d_Mod_method_11 : decode b_Mod_method 11 = .ok (.bipush 6, 2) := by decide +kernel
theorem d_Mod_method_13 : decode b_Mod_method 13 = .ok (.if_icmp .eq 14, 3) := by decide +kernel
theorem d_Mod_method_16 : decode b_Mod_method 16 = .ok (.iload_n 1, 1) := by decide +kernel
theorem d_Mod_method_17 : decode b_Mod_method 17 = .ok (.iconst (-1), 1) := by decide +kernel
theorem d_Mod_method_18 : decode b_Mod_method 18 = .ok (.if_icmp .lt 9, 3) := by decide +kernel
theorem d_Mod_method_21 : decode b_Mod_method 21 = .ok (.iload_n 1, 1) := by decide +kernel
theorem d_Mod_method_22 : decode b_Mod_method 22 = .ok (.bipush 11, 2) := by decide +kernel
theorem d_Mod_method_24 : decode b_Mod_method 24 = .ok (.if_icmp .le 5, 3) := by decide +kernel
theorem d_Mod_method_27 : decode b_Mod_method 27 = .ok (.iconst (-1), 1) := by decide +kernel
theorem d_Mod_method_28 : decode b_Mod_method 28 = .ok (.ireturn, 1) := by decide +kernel
theorem d_Mod_method_29 : decode b_Mod_method 29 = .ok (.aload_n 0, 1) := by decide +kernel
theorem d_Mod_method_30 : decode b_Mod_method 30 = .ok (.iconst 1, 1) := by decide +kernel
theorem d_Mod_method_31 : decode b_Mod_method 31 = .ok (.putfield 73, 3) := by decide +kernel
theorem d_Mod_method_34 : decode b_Mod_method 34 = .ok (.aload_n 0, 1) := by decide +kernel
theorem d_Mod_method_35 : decode b_Mod_method 35 = .ok (.getfield 19, 3) := by decide +kernel
theorem d_Mod_method_38 : decode b_Mod_method 38 = .ok (.aload_n 0, 1) := by decide +kernel
theorem d_Mod_method_39 : decode b_Mod_method 39 = .ok (.getfield 77, 3) := by decide +kernel
theorem d_Mod_method_42 : decode b_Mod_method 42 = .ok (.iload_n 1, 1) := by decide +kernel
theorem d_Mod_method_43 : decode b_Mod_method 43 = .ok (.iastore, 1) := by decide +kernel
theorem d_Mod_method_44 : decode b_Mod_method 44 = .ok (.aload_n 0, 1) := by decide +kernel
theorem d_Mod_method_45 : decode b_Mod_method 45 = .ok (.getfield 22, 3) := by decide +kernel
theorem d_Mod_method_48 : decode b_Mod_method 48 = .ok (.aload_n 0, 1) := by decide +kernel
theorem d_Mod_method_49 : decode b_Mod_method 49 = .ok (.getfield 77, 3) := by decide +kernel
theorem d_Mod_method_52 : decode b_Mod_method 52 = .ok (.iconst 0, 1) := by decide +kernel
theorem d_Mod_method_53 : decode b_Mod_method 53 = .ok (.iastore, 1) := by decide +kernel
theorem d_Mod_method_54 : decode b_Mod_method 54 = .ok (.aload_n 0, 1) := by decide +kernel
theorem d_Mod_method_55 : decode b_Mod_method 55 = .ok (.dup, 1) := by decide +kernel
theorem d_Mod_method_56 : decode b_Mod_method 56 = .ok (.getfield 77, 3) := by decide +kernel
theorem d_Mod_method_59 : decode b_Mod_method 59 = .ok (.iconst 1, 1) := by decide +kernel
theorem d_Mod_method_60 : decode b_Mod_method 60 = .ok (.iadd, 1) := by decide +kernel
theorem d_Mod_method_61 : decode b_Mod_method 61 = .ok (.putfield 77, 3) := by decide +kernel
theorem d_Mod_method_64 : decode b_Mod_method 64 = .ok (.aload_n 0, 1) := by decide +kernel
theorem d_Mod_method_65 : decode b_Mod_method 65 = .ok (.getfield 77, 3) := by decide +kernel
theorem d_Mod_method_68 : decode b_Mod_method 68 = .ok (.iconst 1, 1) := by decide +kernel
theorem d_Mod_method_69 : decode b_Mod_method 69 = .ok (.isub, 1) := by decide +kernel
theorem d_Mod_method_70 : decode b_Mod_method 70 = .ok (.ireturn, 1) := by decide +kernel
abbrev rm_Mod_method : Room := { frames := 0, cells := 0, slots := 0, locals := 0 }
set_option maxHeartbeats 4000000 in
set_option maxRecDepth 100000 in
theorem c_Mod_method {l : Launch} {dC : Nat → ClassId} {dI : Nat → Nat → Nat} {a : Nat → Nat} {cI cZ : ClassId} {σ : St} {x1 : Int32} {q : Int32 × St} (h : fMod_method σ x1 = some q) : CI l (dC, dI) clA (tyM cI cZ) SXm (wM a cI cZ σ) (wM a cI cZ q.2) y_Mod_method b_Mod_method 2 (some .int) rm_Mod_method [.ref (a 0), .int x1] q.1 := by
  refine CI_of (by decide) (Nat.le_of_ble_eq_true rfl) ?_
  intro pr e s m below meth c A ls C hr hl hI
  have hx := C.1
  have hb := C.2.1
  have hl : lv_has ls 2 [(0, .ref (a 0)), (1, .int x1)] := hl
  unfold fMod_method at h
  refine lv_aload_n hx hb d_Mod_method_0 rfl (lv_at hl 0 rfl) ?_
  refine gf_Mod_73 C hI (v := σ.1 4) rfl d_Mod_method_1 ?_
  refine lv_if_ne (tgt := 27) hx hb d_Mod_method_4 (by decide) (fun hc => ?_) (fun hc => ?_)
  · replace h := of_neg hc h
    refine lv_iconst (v := (-1)) hx hb d_Mod_method_27 (by decide) ?_
    replace h := Option.some.inj h
    subst h
    exact rb_retI C hr hI d_Mod_method_28
  · replace h := of_pos hc h
    refine lv_aload_n hx hb d_Mod_method_7 rfl (lv_at hl 0 rfl) ?_
    refine gf_Mod_77 C hI (v := σ.1 3) rfl d_Mod_method_8 ?_
    refine lv_bipush (v := 6) hx hb d_Mod_method_11 (by decide) ?_
    refine lv_icmp_eq (tgt := 27) hx hb d_Mod_method_13 (by decide) (fun hc => ?_) (fun hc => ?_)
    · replace h := of_pos hc h
      refine lv_iconst (v := (-1)) hx hb d_Mod_method_27 (by decide) ?_
      replace h := Option.some.inj h
      subst h
      exact rb_retI C hr hI d_Mod_method_28
    · replace h := of_neg hc h
      refine lv_iload_n hx hb d_Mod_method_16 rfl (lv_at hl 1 rfl) ?_
      refine lv_iconst (v := (-1)) hx hb d_Mod_method_17 (by decide) ?_
      refine lv_icmp_lt (tgt := 27) hx hb d_Mod_method_18 (by decide) (fun hc => ?_) (fun hc => ?_)
      · replace h := of_pos hc h
        refine lv_iconst (v := (-1)) hx hb d_Mod_method_27 (by decide) ?_
        replace h := Option.some.inj h
        subst h
        exact rb_retI C hr hI d_Mod_method_28
      · replace h := of_neg hc h
        refine lv_iload_n hx hb d_Mod_method_21 rfl (lv_at hl 1 rfl) ?_
        refine lv_bipush (v := 11) hx hb d_Mod_method_22 (by decide) ?_
        refine lv_icmp_le (tgt := 29) hx hb d_Mod_method_24 (by decide) (fun hc => ?_) (fun hc => ?_)
        · replace h := of_pos hc h
          refine lv_aload_n hx hb d_Mod_method_29 rfl (lv_at hl 0 rfl) ?_
          refine lv_iconst (v := 1) hx hb d_Mod_method_30 (by decide) ?_
          refine pf_Mod_73 C hI (σ' := (upd σ.1 4 1, σ.2)) rfl (by decide) d_Mod_method_31 (fun H locs hI => ?_)
          refine lv_aload_n hx hb d_Mod_method_34 rfl (lv_at hl 0 rfl) ?_
          refine gf_Mod_19 C hI d_Mod_method_35 ?_
          refine lv_aload_n hx hb d_Mod_method_38 rfl (lv_at hl 0 rfl) ?_
          refine gf_Mod_77 C hI (v := σ.1 3) rfl d_Mod_method_39 ?_
          refine lv_iload_n hx hb d_Mod_method_42 rfl (lv_at hl 1 rfl) ?_
          obtain ⟨hg43, h⟩ := of_guard h
          refine as_M_3 C hI (σ' := (upd σ.1 4 1, va_up σ.2 3 (upd (σ.2 3) (σ.1 3).toNatClampNeg x1))) rfl hg43 d_Mod_method_43 (fun H locs hI => ?_)
          refine lv_aload_n hx hb d_Mod_method_44 rfl (lv_at hl 0 rfl) ?_
          refine gf_Mod_22 C hI d_Mod_method_45 ?_
          refine lv_aload_n hx hb d_Mod_method_48 rfl (lv_at hl 0 rfl) ?_
          refine gf_Mod_77 C hI (v := σ.1 3) rfl d_Mod_method_49 ?_
          refine lv_iconst (v := 0) hx hb d_Mod_method_52 (by decide) ?_
          obtain ⟨hg53, h⟩ := of_guard h
          refine as_M_4 C hI (σ' := (upd σ.1 4 1, va_up (va_up σ.2 3 (upd (σ.2 3) (σ.1 3).toNatClampNeg x1)) 4 (upd (σ.2 4) (σ.1 3).toNatClampNeg 0))) rfl hg53 d_Mod_method_53 (fun H locs hI => ?_)
          refine lv_aload_n hx hb d_Mod_method_54 rfl (lv_at hl 0 rfl) ?_
          refine lv_dup hx hb d_Mod_method_55 rfl ?_
          refine gf_Mod_77 C hI (v := σ.1 3) rfl d_Mod_method_56 ?_
          refine lv_iconst (v := 1) hx hb d_Mod_method_59 (by decide) ?_
          refine lv_iadd hx hb d_Mod_method_60 ?_
          refine pf_Mod_77 C hI (σ' := (upd (upd σ.1 4 1) 3 ((σ.1 3) + 1), va_up (va_up σ.2 3 (upd (σ.2 3) (σ.1 3).toNatClampNeg x1)) 4 (upd (σ.2 4) (σ.1 3).toNatClampNeg 0))) rfl d_Mod_method_61 (fun H locs hI => ?_)
          refine lv_aload_n hx hb d_Mod_method_64 rfl (lv_at hl 0 rfl) ?_
          refine gf_Mod_77 C hI (v := (σ.1 3) + 1) rfl d_Mod_method_65 ?_
          refine lv_iconst (v := 1) hx hb d_Mod_method_68 (by decide) ?_
          refine lv_isub hx hb d_Mod_method_69 ?_
          replace h := Option.some.inj h
          subst h
          exact rb_retI C hr hI d_Mod_method_70
        · replace h := of_neg hc h
          refine lv_iconst (v := (-1)) hx hb d_Mod_method_27 (by decide) ?_
          replace h := Option.some.inj h
          subst h
          exact rb_retI C hr hI d_Mod_method_28
theorem d_Mod_fits_0 : decode b_Mod_fits 0 = .ok (.iload_n 1, 1) := by decide +kernel
theorem d_Mod_fits_1 : decode b_Mod_fits 1 = .ok (.bipush 9, 2) := by decide +kernel
theorem d_Mod_fits_3 : decode b_Mod_fits 3 = .ok (.if_icmp .eq 13, 3) := by decide +kernel
theorem d_Mod_fits_6 : decode b_Mod_fits 6 = .ok (.iload_n 2, 1) := by decide +kernel
theorem d_Mod_fits_7 : decode b_Mod_fits 7 = .ok (.iconst 3, 1) := by decide +kernel
theorem d_Mod_fits_8 : decode b_Mod_fits 8 = .ok (.invokestatic 69, 3) := by decide +kernel
theorem d_Mod_fits_11 : decode b_Mod_fits 11 = .ok (.ifCond .ne 5, 3) := by decide +kernel
theorem d_Mod_fits_14 : decode b_Mod_fits 14 = .ok (.iconst 0, 1) := by decide +kernel
theorem d_Mod_fits_15 : decode b_Mod_fits 15 = .ok (.ireturn, 1) := by decide +kernel
theorem d_Mod_fits_16 : decode b_Mod_fits 16 = .ok (.iload_n 1, 1) := by decide +kernel
theorem d_Mod_fits_17 : decode b_Mod_fits 17 = .ok (.iconst 1, 1) := by decide +kernel
theorem d_Mod_fits_18 : decode b_Mod_fits 18 = .ok (.if_icmp .eq 31, 3) := by decide +kernel
theorem d_Mod_fits_21 : decode b_Mod_fits 21 = .ok (.iload_n 1, 1) := by decide +kernel
theorem d_Mod_fits_22 : decode b_Mod_fits 22 = .ok (.iconst 3, 1) := by decide +kernel
theorem d_Mod_fits_23 : decode b_Mod_fits 23 = .ok (.if_icmp .eq 26, 3) := by decide +kernel
theorem d_Mod_fits_26 : decode b_Mod_fits 26 = .ok (.iload_n 1, 1) := by decide +kernel
theorem d_Mod_fits_27 : decode b_Mod_fits 27 = .ok (.iconst 5, 1) := by decide +kernel
theorem d_Mod_fits_28 : decode b_Mod_fits 28 = .ok (.if_icmp .lt 9, 3) := by decide +kernel
theorem d_Mod_fits_31 : decode b_Mod_fits 31 = .ok (.iload_n 1, 1) := by decide +kernel
theorem d_Mod_fits_32 : decode b_Mod_fits 32 = .ok (.bipush 8, 2) := by decide +kernel
theorem d_Mod_fits_34 : decode b_Mod_fits 34 = .ok (.if_icmp .le 15, 3) := by decide +kernel
theorem d_Mod_fits_37 : decode b_Mod_fits 37 = .ok (.iload_n 1, 1) := by decide +kernel
theorem d_Mod_fits_38 : decode b_Mod_fits 38 = .ok (.bipush 12, 2) := by decide +kernel
theorem d_Mod_fits_40 : decode b_Mod_fits 40 = .ok (.if_icmp .eq 9, 3) := by decide +kernel
theorem d_Mod_fits_43 : decode b_Mod_fits 43 = .ok (.iload_n 1, 1) := by decide +kernel
theorem d_Mod_fits_44 : decode b_Mod_fits 44 = .ok (.bipush 13, 2) := by decide +kernel
theorem d_Mod_fits_46 : decode b_Mod_fits 46 = .ok (.if_icmp .ne 7, 3) := by decide +kernel
theorem d_Mod_fits_49 : decode b_Mod_fits 49 = .ok (.iconst 1, 1) := by decide +kernel
theorem d_Mod_fits_50 : decode b_Mod_fits 50 = .ok (.goto 4, 3) := by decide +kernel
theorem d_Mod_fits_53 : decode b_Mod_fits 53 = .ok (.iconst 0, 1) := by decide +kernel
theorem d_Mod_fits_54 : decode b_Mod_fits 54 = .ok (.istore 5, 2) := by decide +kernel
theorem d_Mod_fits_56 : decode b_Mod_fits 56 = .ok (.iload 5, 2) := by decide +kernel
theorem d_Mod_fits_58 : decode b_Mod_fits 58 = .ok (.ifCond .eq 13, 3) := by decide +kernel
theorem d_Mod_fits_61 : decode b_Mod_fits 61 = .ok (.iload_n 3, 1) := by decide +kernel
theorem d_Mod_fits_62 : decode b_Mod_fits 62 = .ok (.iconst 3, 1) := by decide +kernel
theorem d_Mod_fits_63 : decode b_Mod_fits 63 = .ok (.invokestatic 69, 3) := by decide +kernel
theorem d_Mod_fits_66 : decode b_Mod_fits 66 = .ok (.ifCond .ne 5, 3) := by decide +kernel
theorem d_Mod_fits_69 : decode b_Mod_fits 69 = .ok (.iconst 0, 1) := by decide +kernel
theorem d_Mod_fits_70 : decode b_Mod_fits 70 = .ok (.ireturn, 1) := by decide +kernel
theorem d_Mod_fits_71 : decode b_Mod_fits 71 = .ok (.iload_n 1, 1) := by decide +kernel
theorem d_Mod_fits_72 : decode b_Mod_fits 72 = .ok (.iconst 1, 1) := by decide +kernel
theorem d_Mod_fits_73 : decode b_Mod_fits 73 = .ok (.if_icmp .eq 14, 3) := by decide +kernel
theorem d_Mod_fits_76 : decode b_Mod_fits 76 = .ok (.iload_n 1, 1) := by decide +kernel
theorem d_Mod_fits_77 : decode b_Mod_fits 77 = .ok (.iconst 5, 1) := by decide +kernel
theorem d_Mod_fits_78 : decode b_Mod_fits 78 = .ok (.if_icmp .lt 16, 3) := by decide +kernel
theorem d_Mod_fits_81 : decode b_Mod_fits 81 = .ok (.iload_n 1, 1) := by decide +kernel
theorem d_Mod_fits_82 : decode b_Mod_fits 82 = .ok (.bipush 8, 2) := by decide +kernel
theorem d_Mod_fits_84 : decode b_Mod_fits 84 = .ok (.if_icmp .gt 10, 3) := by decide +kernel
theorem d_Mod_fits_87 : decode b_Mod_fits 87 = .ok (.iload 4, 2) := by decide +kernel
theorem d_Mod_fits_89 : decode b_Mod_fits 89 = .ok (.iconst 3, 1) := by decide +kernel
theorem d_Mod_fits_90 : decode b_Mod_fits 90 = .ok (.invokestatic 69, 3) := by decide +kernel
theorem d_Mod_fits_93 : decode b_Mod_fits 93 = .ok (.ireturn, 1) := by decide +kernel
theorem d_Mod_fits_94 : decode b_Mod_fits 94 = .ok (.iload_n 1, 1) := by decide +kernel
theorem d_Mod_fits_95 : decode b_Mod_fits 95 = .ok (.iconst 2, 1) := by decide +kernel
theorem d_Mod_fits_96 : decode b_Mod_fits 96 = .ok (.if_icmp .ne 13, 3) := by decide +kernel
theorem d_Mod_fits_99 : decode b_Mod_fits 99 = .ok (.iload 4, 2) := by decide +kernel
theorem d_Mod_fits_101 : decode b_Mod_fits 101 = .ok (.aload_n 0, 1) := by decide +kernel
theorem d_Mod_fits_102 : decode b_Mod_fits 102 = .ok (.getfield 66, 3) := by decide +kernel
theorem d_Mod_fits_105 : decode b_Mod_fits 105 = .ok (.invokestatic 69, 3) := by decide +kernel
theorem d_Mod_fits_108 : decode b_Mod_fits 108 = .ok (.ireturn, 1) := by decide +kernel
theorem d_Mod_fits_109 : decode b_Mod_fits 109 = .ok (.iload_n 1, 1) := by decide +kernel
theorem d_Mod_fits_110 : decode b_Mod_fits 110 = .ok (.bipush 9, 2) := by decide +kernel
theorem d_Mod_fits_112 : decode b_Mod_fits 112 = .ok (.if_icmp .lt 17, 3) := by decide +kernel
theorem d_Mod_fits_115 : decode b_Mod_fits 115 = .ok (.iload_n 1, 1) := by decide +kernel
theorem d_Mod_fits_116 : decode b_Mod_fits 116 = .ok (.bipush 11, 2) := by decide +kernel
theorem d_Mod_fits_118 : decode b_Mod_fits 118 = .ok (.if_icmp .gt 11, 3) := by decide +kernel
theorem d_Mod_fits_121 : decode b_Mod_fits 121 = .ok (.iload 4, 2) := by decide +kernel
theorem d_Mod_fits_123 : decode b_Mod_fits 123 = .ok (.bipush 12, 2) := by decide +kernel
theorem d_Mod_fits_125 : decode b_Mod_fits 125 = .ok (.invokestatic 69, 3) := by decide +kernel
theorem d_Mod_fits_128 : decode b_Mod_fits 128 = .ok (.ireturn, 1) := by decide +kernel
theorem d_Mod_fits_129 : decode b_Mod_fits 129 = .ok (.iload_n 1, 1) := by decide +kernel
theorem d_Mod_fits_130 : decode b_Mod_fits 130 = .ok (.bipush 12, 2) := by decide +kernel
theorem d_Mod_fits_132 : decode b_Mod_fits 132 = .ok (.if_icmp .ne 12, 3) := by decide +kernel
theorem d_Mod_fits_135 : decode b_Mod_fits 135 = .ok (.iload 4, 2) := by decide +kernel
theorem d_Mod_fits_137 : decode b_Mod_fits 137 = .ok (.iconst 4, 1) := by decide +kernel
theorem d_Mod_fits_138 : decode b_Mod_fits 138 = .ok (.invokestatic 69, 3) := by decide +kernel
theorem d_Mod_fits_141 : decode b_Mod_fits 141 = .ok (.ifCond .eq 7, 3) := by decide +kernel
theorem d_Mod_fits_144 : decode b_Mod_fits 144 = .ok (.iconst 1, 1) := by decide +kernel
theorem d_Mod_fits_145 : decode b_Mod_fits 145 = .ok (.goto 4, 3) := by decide +kernel
theorem d_Mod_fits_148 : decode b_Mod_fits 148 = .ok (.iconst 0, 1) := by decide +kernel
theorem d_Mod_fits_149 : decode b_Mod_fits 149 = .ok (.ireturn, 1) := by decide +kernel
abbrev rm_Mod_fits : Room := { frames := 1, cells := 0, slots := 0, locals := 21 }
set_option maxHeartbeats 4000000 in
set_option maxRecDepth 100000 in
theorem j_Mod_fits_J129 {l : Launch} {dC : Nat → ClassId} {dI : Nat → Nat → Nat} {a : Nat → Nat} {cI cZ : ClassId} {pr : Program} {e : Env} {s : State} {m : MethodId} {args : Array Value} {below : List Frame} {meth : Method} {c : Code} {A : Nat → Prop} {ls : Array Slot} {H : Heap} {locs : List Loc} {σ : St} {x1 x4 : Int32} {q : Int32 × St} (C : Cx (dC, dI) clA (tyM cI cZ) SXm pr s m args meth c b_Mod_fits 6 y_Mod_fits.cls A) (hr : meth.sig.returnType = (some .boolean)) (h : fMod_fits_J129 σ x1 x4 = some q) (hl : lv_has ls 6 [(1, .int x1), (4, .int x4)]) (hI : Wi (dC, dI) clA (wM a cI cZ σ) s A H locs)  : W pr l e rm_Mod_fits s m args below meth c H locs 0 0 (MQ below (rb_Qi (dC, dI) clA (tyM cI cZ) (wM a cI cZ q.2) q.1 A) args s 0 0 A) (F0 m 129 ls []) := by
  have hx := C.1
  have hb := C.2.1
  unfold fMod_fits_J129 at h
  refine lv_iload_n hx hb d_Mod_fits_129 rfl (lv_at hl 0 rfl) ?_
  refine lv_bipush (v := 12) hx hb d_Mod_fits_130 (by decide) ?_
  refine lv_icmp_ne (tgt := 144) hx hb d_Mod_fits_132 (by decide) (fun hc => ?_) (fun hc => ?_)
  · replace h := of_neg hc h
    refine lv_iconst (v := 1) hx hb d_Mod_fits_144 (by decide) ?_
    refine lv_goto (tgt := 149) hx hb d_Mod_fits_145 (by decide) ?_
    replace h := Option.some.inj h
    subst h
    exact rb_retZ C hr (Or.inr rfl) hI d_Mod_fits_149
  · replace h := of_pos hc h
    refine lv_iload hx hb d_Mod_fits_135 (lv_at hl 1 rfl) ?_
    refine lv_iconst (v := 4) hx hb d_Mod_fits_137 (by decide) ?_
    obtain ⟨p138, hp138, h⟩ := of_bind h
    refine rb_callSI smok C (c_Mod_below hp138) cw_Mod_69 ⟨Nat.le_of_ble_eq_true rfl, Nat.le_of_ble_eq_true rfl⟩ ⟨rfl, rfl⟩ hI ⟨Nat.zero_le _, Nat.zero_le _⟩ (As := [.int x4, .int 4]) rfl hl.1 (rest := []) (Nat.le_of_ble_eq_true rfl) rfl d_Mod_fits_138 (fun H locs hI => ?_)
    refine lv_if_eq (tgt := 148) hx hb d_Mod_fits_141 (by decide) (fun hc => ?_) (fun hc => ?_)
    · replace h := of_pos hc h
      refine lv_iconst (v := 0) hx hb d_Mod_fits_148 (by decide) ?_
      replace h := Option.some.inj h
      subst h
      exact rb_retZ C hr (Or.inl rfl) hI d_Mod_fits_149
    · replace h := of_neg hc h
      refine lv_iconst (v := 1) hx hb d_Mod_fits_144 (by decide) ?_
      refine lv_goto (tgt := 149) hx hb d_Mod_fits_145 (by decide) ?_
      replace h := Option.some.inj h
      subst h
      exact rb_retZ C hr (Or.inr rfl) hI d_Mod_fits_149
set_option maxHeartbeats 4000000 in
set_option maxRecDepth 100000 in
theorem j_Mod_fits_J94 {l : Launch} {dC : Nat → ClassId} {dI : Nat → Nat → Nat} {a : Nat → Nat} {cI cZ : ClassId} {pr : Program} {e : Env} {s : State} {m : MethodId} {args : Array Value} {below : List Frame} {meth : Method} {c : Code} {A : Nat → Prop} {ls : Array Slot} {H : Heap} {locs : List Loc} {σ : St} {x1 x4 : Int32} {q : Int32 × St} (C : Cx (dC, dI) clA (tyM cI cZ) SXm pr s m args meth c b_Mod_fits 6 y_Mod_fits.cls A) (hr : meth.sig.returnType = (some .boolean)) (h : fMod_fits_J94 σ x1 x4 = some q) (hl : lv_has ls 6 [(0, .ref (a 0)), (1, .int x1), (4, .int x4)]) (hI : Wi (dC, dI) clA (wM a cI cZ σ) s A H locs)  : W pr l e rm_Mod_fits s m args below meth c H locs 0 0 (MQ below (rb_Qi (dC, dI) clA (tyM cI cZ) (wM a cI cZ q.2) q.1 A) args s 0 0 A) (F0 m 94 ls []) := by
  have hx := C.1
  have hb := C.2.1
  unfold fMod_fits_J94 at h
  refine lv_iload_n hx hb d_Mod_fits_94 rfl (lv_at hl 1 rfl) ?_
  refine lv_iconst (v := 2) hx hb d_Mod_fits_95 (by decide) ?_
  refine lv_icmp_ne (tgt := 109) hx hb d_Mod_fits_96 (by decide) (fun hc => ?_) (fun hc => ?_)
  · replace h := of_neg hc h
    refine lv_iload_n hx hb d_Mod_fits_109 rfl (lv_at hl 1 rfl) ?_
    refine lv_bipush (v := 9) hx hb d_Mod_fits_110 (by decide) ?_
    refine lv_icmp_lt (tgt := 129) hx hb d_Mod_fits_112 (by decide) (fun hc => ?_) (fun hc => ?_)
    · replace h := of_pos hc h
      exact j_Mod_fits_J129 C hr h (lv_sub hl [1, 2] rfl) hI
    · replace h := of_neg hc h
      refine lv_iload_n hx hb d_Mod_fits_115 rfl (lv_at hl 1 rfl) ?_
      refine lv_bipush (v := 11) hx hb d_Mod_fits_116 (by decide) ?_
      refine lv_icmp_gt (tgt := 129) hx hb d_Mod_fits_118 (by decide) (fun hc => ?_) (fun hc => ?_)
      · replace h := of_pos hc h
        exact j_Mod_fits_J129 C hr h (lv_sub hl [1, 2] rfl) hI
      · replace h := of_neg hc h
        refine lv_iload hx hb d_Mod_fits_121 (lv_at hl 2 rfl) ?_
        refine lv_bipush (v := 12) hx hb d_Mod_fits_123 (by decide) ?_
        obtain ⟨p125, hp125, h⟩ := of_bind h
        refine rb_callSI smok C (c_Mod_below hp125) cw_Mod_69 ⟨Nat.le_of_ble_eq_true rfl, Nat.le_of_ble_eq_true rfl⟩ ⟨rfl, rfl⟩ hI ⟨Nat.zero_le _, Nat.zero_le _⟩ (As := [.int x4, .int 12]) rfl hl.1 (rest := []) (Nat.le_of_ble_eq_true rfl) rfl d_Mod_fits_125 (fun H locs hI => ?_)
        obtain ⟨hg, h⟩ := of_guard h
        replace h := Option.some.inj h
        subst h
        exact rb_retZ C hr hg hI d_Mod_fits_128
  · replace h := of_pos hc h
    refine lv_iload hx hb d_Mod_fits_99 (lv_at hl 2 rfl) ?_
    refine lv_aload_n hx hb d_Mod_fits_101 rfl (lv_at hl 0 rfl) ?_
    refine gf_Mod_66 C hI (v := σ.1 2) rfl d_Mod_fits_102 ?_
    obtain ⟨p105, hp105, h⟩ := of_bind h
    refine rb_callSI smok C (c_Mod_below hp105) cw_Mod_69 ⟨Nat.le_of_ble_eq_true rfl, Nat.le_of_ble_eq_true rfl⟩ ⟨rfl, rfl⟩ hI ⟨Nat.zero_le _, Nat.zero_le _⟩ (As := [.int x4, .int (σ.1 2)]) rfl hl.1 (rest := []) (Nat.le_of_ble_eq_true rfl) rfl d_Mod_fits_105 (fun H locs hI => ?_)
    obtain ⟨hg, h⟩ := of_guard h
    replace h := Option.some.inj h
    subst h
    exact rb_retZ C hr hg hI d_Mod_fits_108
set_option maxHeartbeats 4000000 in
set_option maxRecDepth 100000 in
theorem j_Mod_fits_J71 {l : Launch} {dC : Nat → ClassId} {dI : Nat → Nat → Nat} {a : Nat → Nat} {cI cZ : ClassId} {pr : Program} {e : Env} {s : State} {m : MethodId} {args : Array Value} {below : List Frame} {meth : Method} {c : Code} {A : Nat → Prop} {ls : Array Slot} {H : Heap} {locs : List Loc} {σ : St} {x1 x4 : Int32} {q : Int32 × St} (C : Cx (dC, dI) clA (tyM cI cZ) SXm pr s m args meth c b_Mod_fits 6 y_Mod_fits.cls A) (hr : meth.sig.returnType = (some .boolean)) (h : fMod_fits_J71 σ x1 x4 = some q) (hl : lv_has ls 6 [(0, .ref (a 0)), (1, .int x1), (4, .int x4)]) (hI : Wi (dC, dI) clA (wM a cI cZ σ) s A H locs)  : W pr l e rm_Mod_fits s m args below meth c H locs 0 0 (MQ below (rb_Qi (dC, dI) clA (tyM cI cZ) (wM a cI cZ q.2) q.1 A) args s 0 0 A) (F0 m 71 ls []) := by
  have hx := C.1
  have hb := C.2.1
  unfold fMod_fits_J71 at h
  refine lv_iload_n hx hb d_Mod_fits_71 rfl (lv_at hl 1 rfl) ?_
  refine lv_iconst (v := 1) hx hb d_Mod_fits_72 (by decide) ?_
  refine lv_icmp_eq (tgt := 87) hx hb d_Mod_fits_73 (by decide) (fun hc => ?_) (fun hc => ?_)
  · replace h := of_pos hc h
    refine lv_iload hx hb d_Mod_fits_87 (lv_at hl 2 rfl) ?_
    refine lv_iconst (v := 3) hx hb d_Mod_fits_89 (by decide) ?_
    obtain ⟨p90, hp90, h⟩ := of_bind h
    refine rb_callSI smok C (c_Mod_below hp90) cw_Mod_69 ⟨Nat.le_of_ble_eq_true rfl, Nat.le_of_ble_eq_true rfl⟩ ⟨rfl, rfl⟩ hI ⟨Nat.zero_le _, Nat.zero_le _⟩ (As := [.int x4, .int 3]) rfl hl.1 (rest := []) (Nat.le_of_ble_eq_true rfl) rfl d_Mod_fits_90 (fun H locs hI => ?_)
    obtain ⟨hg, h⟩ := of_guard h
    replace h := Option.some.inj h
    subst h
    exact rb_retZ C hr hg hI d_Mod_fits_93
  · replace h := of_neg hc h
    refine lv_iload_n hx hb d_Mod_fits_76 rfl (lv_at hl 1 rfl) ?_
    refine lv_iconst (v := 5) hx hb d_Mod_fits_77 (by decide) ?_
    refine lv_icmp_lt (tgt := 94) hx hb d_Mod_fits_78 (by decide) (fun hc => ?_) (fun hc => ?_)
    · replace h := of_pos hc h
      exact j_Mod_fits_J94 C hr h (lv_sub hl [0, 1, 2] rfl) hI
    · replace h := of_neg hc h
      refine lv_iload_n hx hb d_Mod_fits_81 rfl (lv_at hl 1 rfl) ?_
      refine lv_bipush (v := 8) hx hb d_Mod_fits_82 (by decide) ?_
      refine lv_icmp_gt (tgt := 94) hx hb d_Mod_fits_84 (by decide) (fun hc => ?_) (fun hc => ?_)
      · replace h := of_pos hc h
        exact j_Mod_fits_J94 C hr h (lv_sub hl [0, 1, 2] rfl) hI
      · replace h := of_neg hc h
        refine lv_iload hx hb d_Mod_fits_87 (lv_at hl 2 rfl) ?_
        refine lv_iconst (v := 3) hx hb d_Mod_fits_89 (by decide) ?_
        obtain ⟨p90, hp90, h⟩ := of_bind h
        refine rb_callSI smok C (c_Mod_below hp90) cw_Mod_69 ⟨Nat.le_of_ble_eq_true rfl, Nat.le_of_ble_eq_true rfl⟩ ⟨rfl, rfl⟩ hI ⟨Nat.zero_le _, Nat.zero_le _⟩ (As := [.int x4, .int 3]) rfl hl.1 (rest := []) (Nat.le_of_ble_eq_true rfl) rfl d_Mod_fits_90 (fun H locs hI => ?_)
        obtain ⟨hg, h⟩ := of_guard h
        replace h := Option.some.inj h
        subst h
        exact rb_retZ C hr hg hI d_Mod_fits_93
set_option maxHeartbeats 4000000 in
set_option maxRecDepth 100000 in
theorem j_Mod_fits_J54 {l : Launch} {dC : Nat → ClassId} {dI : Nat → Nat → Nat} {a : Nat → Nat} {cI cZ : ClassId} {pr : Program} {e : Env} {s : State} {m : MethodId} {args : Array Value} {below : List Frame} {meth : Method} {c : Code} {A : Nat → Prop} {ls : Array Slot} {H : Heap} {locs : List Loc} {σ : St} {x1 x3 x4 s0 : Int32} {q : Int32 × St} (C : Cx (dC, dI) clA (tyM cI cZ) SXm pr s m args meth c b_Mod_fits 6 y_Mod_fits.cls A) (hr : meth.sig.returnType = (some .boolean)) (h : fMod_fits_J54 σ x1 x3 x4 s0 = some q) (hl : lv_has ls 6 [(0, .ref (a 0)), (1, .int x1), (3, .int x3), (4, .int x4)]) (hI : Wi (dC, dI) clA (wM a cI cZ σ) s A H locs)  : W pr l e rm_Mod_fits s m args below meth c H locs 0 0 (MQ below (rb_Qi (dC, dI) clA (tyM cI cZ) (wM a cI cZ q.2) q.1 A) args s 0 0 A) (F0 m 54 ls [.int s0]) := by
  have hx := C.1
  have hb := C.2.1
  unfold fMod_fits_J54 at h
  refine lv_istore (lv' := [(5, .int s0), (0, .ref (a 0)), (1, .int x1), (3, .int x3), (4, .int x4)]) hx hb d_Mod_fits_54 hl (by decide) rfl (fun ls hl => ?_)
  refine lv_iload hx hb d_Mod_fits_56 (lv_at hl 0 rfl) ?_
  refine lv_if_eq (tgt := 71) hx hb d_Mod_fits_58 (by decide) (fun hc => ?_) (fun hc => ?_)
  · replace h := of_pos hc h
    exact j_Mod_fits_J71 C hr h (lv_sub hl [1, 2, 4] rfl) hI
  · replace h := of_neg hc h
    refine lv_iload_n hx hb d_Mod_fits_61 rfl (lv_at hl 3 rfl) ?_
    refine lv_iconst (v := 3) hx hb d_Mod_fits_62 (by decide) ?_
    obtain ⟨p63, hp63, h⟩ := of_bind h
    refine rb_callSI smok C (c_Mod_below hp63) cw_Mod_69 ⟨Nat.le_of_ble_eq_true rfl, Nat.le_of_ble_eq_true rfl⟩ ⟨rfl, rfl⟩ hI ⟨Nat.zero_le _, Nat.zero_le _⟩ (As := [.int x3, .int 3]) rfl hl.1 (rest := []) (Nat.le_of_ble_eq_true rfl) rfl d_Mod_fits_63 (fun H locs hI => ?_)
    refine lv_if_ne (tgt := 71) hx hb d_Mod_fits_66 (by decide) (fun hc => ?_) (fun hc => ?_)
    · replace h := of_neg hc h
      exact j_Mod_fits_J71 C hr h (lv_sub hl [1, 2, 4] rfl) hI
    · replace h := of_pos hc h
      refine lv_iconst (v := 0) hx hb d_Mod_fits_69 (by decide) ?_
      replace h := Option.some.inj h
      subst h
      exact rb_retZ C hr (Or.inl rfl) hI d_Mod_fits_70
set_option maxHeartbeats 4000000 in
set_option maxRecDepth 100000 in
theorem j_Mod_fits_J49 {l : Launch} {dC : Nat → ClassId} {dI : Nat → Nat → Nat} {a : Nat → Nat} {cI cZ : ClassId} {pr : Program} {e : Env} {s : State} {m : MethodId} {args : Array Value} {below : List Frame} {meth : Method} {c : Code} {A : Nat → Prop} {ls : Array Slot} {H : Heap} {locs : List Loc} {σ : St} {x1 x3 x4 : Int32} {q : Int32 × St} (C : Cx (dC, dI) clA (tyM cI cZ) SXm pr s m args meth c b_Mod_fits 6 y_Mod_fits.cls A) (hr : meth.sig.returnType = (some .boolean)) (h : fMod_fits_J49 σ x1 x3 x4 = some q) (hl : lv_has ls 6 [(0, .ref (a 0)), (1, .int x1), (3, .int x3), (4, .int x4)]) (hI : Wi (dC, dI) clA (wM a cI cZ σ) s A H locs)  : W pr l e rm_Mod_fits s m args below meth c H locs 0 0 (MQ below (rb_Qi (dC, dI) clA (tyM cI cZ) (wM a cI cZ q.2) q.1 A) args s 0 0 A) (F0 m 49 ls []) := by
  have hx := C.1
  have hb := C.2.1
  unfold fMod_fits_J49 at h
  refine lv_iconst (v := 1) hx hb d_Mod_fits_49 (by decide) ?_
  refine lv_goto (tgt := 54) hx hb d_Mod_fits_50 (by decide) ?_
  exact j_Mod_fits_J54 C hr h (lv_sub hl [0, 1, 2, 3] rfl) hI
set_option maxHeartbeats 4000000 in
set_option maxRecDepth 100000 in
theorem j_Mod_fits_J37 {l : Launch} {dC : Nat → ClassId} {dI : Nat → Nat → Nat} {a : Nat → Nat} {cI cZ : ClassId} {pr : Program} {e : Env} {s : State} {m : MethodId} {args : Array Value} {below : List Frame} {meth : Method} {c : Code} {A : Nat → Prop} {ls : Array Slot} {H : Heap} {locs : List Loc} {σ : St} {x1 x3 x4 : Int32} {q : Int32 × St} (C : Cx (dC, dI) clA (tyM cI cZ) SXm pr s m args meth c b_Mod_fits 6 y_Mod_fits.cls A) (hr : meth.sig.returnType = (some .boolean)) (h : fMod_fits_J37 σ x1 x3 x4 = some q) (hl : lv_has ls 6 [(0, .ref (a 0)), (1, .int x1), (3, .int x3), (4, .int x4)]) (hI : Wi (dC, dI) clA (wM a cI cZ σ) s A H locs)  : W pr l e rm_Mod_fits s m args below meth c H locs 0 0 (MQ below (rb_Qi (dC, dI) clA (tyM cI cZ) (wM a cI cZ q.2) q.1 A) args s 0 0 A) (F0 m 37 ls []) := by
  have hx := C.1
  have hb := C.2.1
  unfold fMod_fits_J37 at h
  refine lv_iload_n hx hb d_Mod_fits_37 rfl (lv_at hl 1 rfl) ?_
  refine lv_bipush (v := 12) hx hb d_Mod_fits_38 (by decide) ?_
  refine lv_icmp_eq (tgt := 49) hx hb d_Mod_fits_40 (by decide) (fun hc => ?_) (fun hc => ?_)
  · replace h := of_pos hc h
    exact j_Mod_fits_J49 C hr h (lv_sub hl [0, 1, 2, 3] rfl) hI
  · replace h := of_neg hc h
    refine lv_iload_n hx hb d_Mod_fits_43 rfl (lv_at hl 1 rfl) ?_
    refine lv_bipush (v := 13) hx hb d_Mod_fits_44 (by decide) ?_
    refine lv_icmp_ne (tgt := 53) hx hb d_Mod_fits_46 (by decide) (fun hc => ?_) (fun hc => ?_)
    · replace h := of_neg hc h
      refine lv_iconst (v := 0) hx hb d_Mod_fits_53 (by decide) ?_
      exact j_Mod_fits_J54 C hr h (lv_sub hl [0, 1, 2, 3] rfl) hI
    · replace h := of_pos hc h
      exact j_Mod_fits_J49 C hr h (lv_sub hl [0, 1, 2, 3] rfl) hI
set_option maxHeartbeats 4000000 in
set_option maxRecDepth 100000 in
theorem j_Mod_fits_J16 {l : Launch} {dC : Nat → ClassId} {dI : Nat → Nat → Nat} {a : Nat → Nat} {cI cZ : ClassId} {pr : Program} {e : Env} {s : State} {m : MethodId} {args : Array Value} {below : List Frame} {meth : Method} {c : Code} {A : Nat → Prop} {ls : Array Slot} {H : Heap} {locs : List Loc} {σ : St} {x1 x3 x4 : Int32} {q : Int32 × St} (C : Cx (dC, dI) clA (tyM cI cZ) SXm pr s m args meth c b_Mod_fits 6 y_Mod_fits.cls A) (hr : meth.sig.returnType = (some .boolean)) (h : fMod_fits_J16 σ x1 x3 x4 = some q) (hl : lv_has ls 6 [(0, .ref (a 0)), (1, .int x1), (3, .int x3), (4, .int x4)]) (hI : Wi (dC, dI) clA (wM a cI cZ σ) s A H locs)  : W pr l e rm_Mod_fits s m args below meth c H locs 0 0 (MQ below (rb_Qi (dC, dI) clA (tyM cI cZ) (wM a cI cZ q.2) q.1 A) args s 0 0 A) (F0 m 16 ls []) := by
  have hx := C.1
  have hb := C.2.1
  unfold fMod_fits_J16 at h
  refine lv_iload_n hx hb d_Mod_fits_16 rfl (lv_at hl 1 rfl) ?_
  refine lv_iconst (v := 1) hx hb d_Mod_fits_17 (by decide) ?_
  refine lv_icmp_eq (tgt := 49) hx hb d_Mod_fits_18 (by decide) (fun hc => ?_) (fun hc => ?_)
  · replace h := of_pos hc h
    exact j_Mod_fits_J49 C hr h (lv_sub hl [0, 1, 2, 3] rfl) hI
  · replace h := of_neg hc h
    refine lv_iload_n hx hb d_Mod_fits_21 rfl (lv_at hl 1 rfl) ?_
    refine lv_iconst (v := 3) hx hb d_Mod_fits_22 (by decide) ?_
    refine lv_icmp_eq (tgt := 49) hx hb d_Mod_fits_23 (by decide) (fun hc => ?_) (fun hc => ?_)
    · replace h := of_pos hc h
      exact j_Mod_fits_J49 C hr h (lv_sub hl [0, 1, 2, 3] rfl) hI
    · replace h := of_neg hc h
      refine lv_iload_n hx hb d_Mod_fits_26 rfl (lv_at hl 1 rfl) ?_
      refine lv_iconst (v := 5) hx hb d_Mod_fits_27 (by decide) ?_
      refine lv_icmp_lt (tgt := 37) hx hb d_Mod_fits_28 (by decide) (fun hc => ?_) (fun hc => ?_)
      · replace h := of_pos hc h
        exact j_Mod_fits_J37 C hr h (lv_sub hl [0, 1, 2, 3] rfl) hI
      · replace h := of_neg hc h
        refine lv_iload_n hx hb d_Mod_fits_31 rfl (lv_at hl 1 rfl) ?_
        refine lv_bipush (v := 8) hx hb d_Mod_fits_32 (by decide) ?_
        refine lv_icmp_le (tgt := 49) hx hb d_Mod_fits_34 (by decide) (fun hc => ?_) (fun hc => ?_)
        · replace h := of_pos hc h
          exact j_Mod_fits_J49 C hr h (lv_sub hl [0, 1, 2, 3] rfl) hI
        · replace h := of_neg hc h
          exact j_Mod_fits_J37 C hr h (lv_sub hl [0, 1, 2, 3] rfl) hI
set_option maxHeartbeats 4000000 in
set_option maxRecDepth 100000 in
theorem c_Mod_fits {l : Launch} {dC : Nat → ClassId} {dI : Nat → Nat → Nat} {a : Nat → Nat} {cI cZ : ClassId} {σ : St} {x1 x2 x3 x4 : Int32} {q : Int32 × St} (h : fMod_fits σ x1 x2 x3 x4 = some q) : CI l (dC, dI) clA (tyM cI cZ) SXm (wM a cI cZ σ) (wM a cI cZ q.2) y_Mod_fits b_Mod_fits 6 (some .boolean) rm_Mod_fits [.ref (a 0), .int x1, .int x2, .int x3, .int x4] q.1 := by
  refine CI_of (by decide) (Nat.le_of_ble_eq_true rfl) ?_
  intro pr e s m below meth c A ls C hr hl hI
  have hx := C.1
  have hb := C.2.1
  have hl : lv_has ls 6 [(0, .ref (a 0)), (1, .int x1), (2, .int x2), (3, .int x3), (4, .int x4)] := hl
  unfold fMod_fits at h
  refine lv_iload_n hx hb d_Mod_fits_0 rfl (lv_at hl 1 rfl) ?_
  refine lv_bipush (v := 9) hx hb d_Mod_fits_1 (by decide) ?_
  refine lv_icmp_eq (tgt := 16) hx hb d_Mod_fits_3 (by decide) (fun hc => ?_) (fun hc => ?_)
  · replace h := of_pos hc h
    exact j_Mod_fits_J16 C hr h (lv_sub hl [0, 1, 3, 4] rfl) hI
  · replace h := of_neg hc h
    refine lv_iload_n hx hb d_Mod_fits_6 rfl (lv_at hl 2 rfl) ?_
    refine lv_iconst (v := 3) hx hb d_Mod_fits_7 (by decide) ?_
    obtain ⟨p8, hp8, h⟩ := of_bind h
    refine rb_callSI smok C (c_Mod_below hp8) cw_Mod_69 ⟨Nat.le_of_ble_eq_true rfl, Nat.le_of_ble_eq_true rfl⟩ ⟨rfl, rfl⟩ hI ⟨Nat.zero_le _, Nat.zero_le _⟩ (As := [.int x2, .int 3]) rfl hl.1 (rest := []) (Nat.le_of_ble_eq_true rfl) rfl d_Mod_fits_8 (fun H locs hI => ?_)
    refine lv_if_ne (tgt := 16) hx hb d_Mod_fits_11 (by decide) (fun hc => ?_) (fun hc => ?_)
    · replace h := of_neg hc h
      exact j_Mod_fits_J16 C hr h (lv_sub hl [0, 1, 3, 4] rfl) hI
    · replace h := of_pos hc h
      refine lv_iconst (v := 0) hx hb d_Mod_fits_14 (by decide) ?_
      replace h := Option.some.inj h
      subst h
      exact rb_retZ C hr (Or.inl rfl) hI d_Mod_fits_15
theorem d_Mod_code_0 : decode b_Mod_code 0 = .ok (.aload_n 0, 1) := by decide +kernel
theorem d_Mod_code_1 : decode b_Mod_code 1 = .ok (.getfield 73, 3) := by decide +kernel
theorem d_Mod_code_4 : decode b_Mod_code 4 = .ok (.ifCond .ne 5, 3) := by decide +kernel
theorem d_Mod_code_7 : decode b_Mod_code 7 = .ok (.iconst 1, 1) := by decide +kernel
theorem d_Mod_code_8 : decode b_Mod_code 8 = .ok (.ireturn, 1) := by decide +kernel
theorem d_Mod_code_9 : decode b_Mod_code 9 = .ok (.aload_n 0, 1) := by decide +kernel
theorem d_Mod_code_10 : decode b_Mod_code 10 = .ok (.getfield 77, 3) := by decide +kernel
theorem d_Mod_code_13 : decode b_Mod_code 13 = .ok (.iconst 1, 1) := by decide +kernel
theorem d_Mod_code_14 : decode b_Mod_code 14 = .ok (.isub, 1) := by decide +kernel
theorem d_Mod_code_15 : decode b_Mod_code 15 = .ok (.istore 5, 2) := by decide +kernel
theorem d_Mod_code_17 : decode b_Mod_code 17 = .ok (.aload_n 0, 1) := by decide +kernel
theorem d_Mod_code_18 : decode b_Mod_code 18 = .ok (.getfield 22, 3) := by decide +kernel
theorem d_Mod_code_21 : decode b_Mod_code 21 = .ok (.iload 5, 2) := by decide +kernel
theorem d_Mod_code_23 : decode b_Mod_code 23 = .ok (.iaload, 1) := by decide +kernel
theorem d_Mod_code_24 : decode b_Mod_code 24 = .ok (.bipush 12, 2) := by decide +kernel
theorem d_Mod_code_26 : decode b_Mod_code 26 = .ok (.if_icmp .ne 5, 3) := by decide +kernel
theorem d_Mod_code_29 : decode b_Mod_code 29 = .ok (.iconst 2, 1) := by decide +kernel
theorem d_Mod_code_30 : decode b_Mod_code 30 = .ok (.ireturn, 1) := by decide +kernel
theorem d_Mod_code_31 : decode b_Mod_code 31 = .ok (.iload_n 1, 1) := by decide +kernel
theorem d_Mod_code_32 : decode b_Mod_code 32 = .ok (.bipush 16, 2) := by decide +kernel
theorem d_Mod_code_34 : decode b_Mod_code 34 = .ok (.invokestatic 69, 3) := by decide +kernel
theorem d_Mod_code_37 : decode b_Mod_code 37 = .ok (.ifCond .ne 5, 3) := by decide +kernel
theorem d_Mod_code_40 : decode b_Mod_code 40 = .ok (.iconst 3, 1) := by decide +kernel
theorem d_Mod_code_41 : decode b_Mod_code 41 = .ok (.ireturn, 1) := by decide +kernel
theorem d_Mod_code_42 : decode b_Mod_code 42 = .ok (.aload_n 0, 1) := by decide +kernel
theorem d_Mod_code_43 : decode b_Mod_code 43 = .ok (.iload_n 1, 1) := by decide +kernel
theorem d_Mod_code_44 : decode b_Mod_code 44 = .ok (.iload_n 2, 1) := by decide +kernel
theorem d_Mod_code_45 : decode b_Mod_code 45 = .ok (.iload_n 3, 1) := by decide +kernel
theorem d_Mod_code_46 : decode b_Mod_code 46 = .ok (.iload 4, 2) := by decide +kernel
theorem d_Mod_code_48 : decode b_Mod_code 48 = .ok (.invokevirtual 84, 3) := by decide +kernel
theorem d_Mod_code_51 : decode b_Mod_code 51 = .ok (.ifCond .ne 5, 3) := by decide +kernel
theorem d_Mod_code_54 : decode b_Mod_code 54 = .ok (.iconst 4, 1) := by decide +kernel
theorem d_Mod_code_55 : decode b_Mod_code 55 = .ok (.ireturn, 1) := by decide +kernel
theorem d_Mod_code_56 : decode b_Mod_code 56 = .ok (.bipush 48, 2) := by decide +kernel
theorem d_Mod_code_58 : decode b_Mod_code 58 = .ok (.iload 5, 2) := by decide +kernel
theorem d_Mod_code_60 : decode b_Mod_code 60 = .ok (.imul, 1) := by decide +kernel
theorem d_Mod_code_61 : decode b_Mod_code 61 = .ok (.iconst 4, 1) := by decide +kernel
theorem d_Mod_code_62 : decode b_Mod_code 62 = .ok (.aload_n 0, 1) := by decide +kernel
theorem d_Mod_code_63 : decode b_Mod_code 63 = .ok (.getfield 22, 3) := by decide +kernel
theorem d_Mod_code_66 : decode b_Mod_code 66 = .ok (.iload 5, 2) := by decide +kernel
theorem d_Mod_code_68 : decode b_Mod_code 68 = .ok (.iaload, 1) := by decide +kernel
theorem d_Mod_code_69 : decode b_Mod_code 69 = .ok (.imul, 1) := by decide +kernel
theorem d_Mod_code_70 : decode b_Mod_code 70 = .ok (.iadd, 1) := by decide +kernel
theorem d_Mod_code_71 : decode b_Mod_code 71 = .ok (.istore 6, 2) := by decide +kernel
theorem d_Mod_code_73 : decode b_Mod_code 73 = .ok (.aload_n 0, 1) := by decide +kernel
theorem d_Mod_code_74 : decode b_Mod_code 74 = .ok (.getfield 25, 3) := by decide +kernel
theorem d_Mod_code_77 : decode b_Mod_code 77 = .ok (.iload 6, 2) := by decide +kernel
theorem d_Mod_code_79 : decode b_Mod_code 79 = .ok (.iload_n 1, 1) := by decide +kernel
theorem d_Mod_code_80 : decode b_Mod_code 80 = .ok (.iastore, 1) := by decide +kernel
theorem d_Mod_code_81 : decode b_Mod_code 81 = .ok (.aload_n 0, 1) := by decide +kernel
theorem d_Mod_code_82 : decode b_Mod_code 82 = .ok (.getfield 25, 3) := by decide +kernel
theorem d_Mod_code_85 : decode b_Mod_code 85 = .ok (.iload 6, 2) := by decide +kernel
theorem d_Mod_code_87 : decode b_Mod_code 87 = .ok (.iconst 1, 1) := by decide +kernel
theorem d_Mod_code_88 : decode b_Mod_code 88 = .ok (.iadd, 1) := by decide +kernel
theorem d_Mod_code_89 : decode b_Mod_code 89 = .ok (.iload_n 2, 1) := by decide +kernel
theorem d_Mod_code_90 : decode b_Mod_code 90 = .ok (.iastore, 1) := by decide +kernel
theorem d_Mod_code_91 : decode b_Mod_code 91 = .ok (.aload_n 0, 1) := by decide +kernel
theorem d_Mod_code_92 : decode b_Mod_code 92 = .ok (.getfield 25, 3) := by decide +kernel
theorem d_Mod_code_95 : decode b_Mod_code 95 = .ok (.iload 6, 2) := by decide +kernel
theorem d_Mod_code_97 : decode b_Mod_code 97 = .ok (.iconst 2, 1) := by decide +kernel
theorem d_Mod_code_98 : decode b_Mod_code 98 = .ok (.iadd, 1) := by decide +kernel
theorem d_Mod_code_99 : decode b_Mod_code 99 = .ok (.iload_n 3, 1) := by decide +kernel
theorem d_Mod_code_100 : decode b_Mod_code 100 = .ok (.iastore, 1) := by decide +kernel
theorem d_Mod_code_101 : decode b_Mod_code 101 = .ok (.aload_n 0, 1) := by decide +kernel
theorem d_Mod_code_102 : decode b_Mod_code 102 = .ok (.getfield 25, 3) := by decide +kernel
theorem d_Mod_code_105 : decode b_Mod_code 105 = .ok (.iload 6, 2) := by decide +kernel
theorem d_Mod_code_107 : decode b_Mod_code 107 = .ok (.iconst 3, 1) := by decide +kernel
theorem d_Mod_code_108 : decode b_Mod_code 108 = .ok (.iadd, 1) := by decide +kernel
theorem d_Mod_code_109 : decode b_Mod_code 109 = .ok (.iload 4, 2) := by decide +kernel
theorem d_Mod_code_111 : decode b_Mod_code 111 = .ok (.iastore, 1) := by decide +kernel
theorem d_Mod_code_112 : decode b_Mod_code 112 = .ok (.aload_n 0, 1) := by decide +kernel
theorem d_Mod_code_113 : decode b_Mod_code 113 = .ok (.getfield 22, 3) := by decide +kernel
theorem d_Mod_code_116 : decode b_Mod_code 116 = .ok (.iload 5, 2) := by decide +kernel
theorem d_Mod_code_118 : decode b_Mod_code 118 = .ok (.dup2, 1) := by decide +kernel
theorem d_Mod_code_119 : decode b_Mod_code 119 = .ok (.iaload, 1) := by decide +kernel
theorem d_Mod_code_120 : decode b_Mod_code 120 = .ok (.iconst 1, 1) := by decide +kernel
theorem d_Mod_code_121 : decode b_Mod_code 121 = .ok (.iadd, 1) := by decide +kernel
theorem d_Mod_code_122 : decode b_Mod_code 122 = .ok (.iastore, 1) := by decide +kernel
theorem d_Mod_code_123 : decode b_Mod_code 123 = .ok (.iconst 0, 1) := by decide +kernel
theorem d_Mod_code_124 : decode b_Mod_code 124 = .ok (.ireturn, 1) := by decide +kernel
abbrev rm_Mod_code : Room := { frames := 2, cells := 0, slots := 0, locals := 46 }
set_option maxHeartbeats 4000000 in
set_option maxRecDepth 100000 in
theorem c_Mod_code {l : Launch} {dC : Nat → ClassId} {dI : Nat → Nat → Nat} {a : Nat → Nat} {cI cZ : ClassId} {σ : St} {x1 x2 x3 x4 : Int32} {q : Int32 × St} (h : fMod_code σ x1 x2 x3 x4 = some q) : CI l (dC, dI) clA (tyM cI cZ) SXm (wM a cI cZ σ) (wM a cI cZ q.2) y_Mod_code b_Mod_code 7 (some .int) rm_Mod_code [.ref (a 0), .int x1, .int x2, .int x3, .int x4] q.1 := by
  refine CI_of (by decide) (Nat.le_of_ble_eq_true rfl) ?_
  intro pr e s m below meth c A ls C hr hl hI
  have hx := C.1
  have hb := C.2.1
  have hl : lv_has ls 7 [(0, .ref (a 0)), (1, .int x1), (2, .int x2), (3, .int x3), (4, .int x4)] := hl
  unfold fMod_code at h
  refine lv_aload_n hx hb d_Mod_code_0 rfl (lv_at hl 0 rfl) ?_
  refine gf_Mod_73 C hI (v := σ.1 4) rfl d_Mod_code_1 ?_
  refine lv_if_ne (tgt := 9) hx hb d_Mod_code_4 (by decide) (fun hc => ?_) (fun hc => ?_)
  · replace h := of_neg hc h
    refine lv_aload_n hx hb d_Mod_code_9 rfl (lv_at hl 0 rfl) ?_
    refine gf_Mod_77 C hI (v := σ.1 3) rfl d_Mod_code_10 ?_
    refine lv_iconst (v := 1) hx hb d_Mod_code_13 (by decide) ?_
    refine lv_isub hx hb d_Mod_code_14 ?_
    refine lv_istore (lv' := [(5, .int ((σ.1 3) - 1)), (0, .ref (a 0)), (1, .int x1), (2, .int x2), (3, .int x3), (4, .int x4)]) hx hb d_Mod_code_15 hl (by decide) rfl (fun ls hl => ?_)
    refine lv_aload_n hx hb d_Mod_code_17 rfl (lv_at hl 1 rfl) ?_
    refine gf_Mod_22 C hI d_Mod_code_18 ?_
    refine lv_iload hx hb d_Mod_code_21 (lv_at hl 0 rfl) ?_
    obtain ⟨hg23, h⟩ := of_guard h
    refine al_M_4 C hI (f := σ.2 4) rfl hg23 d_Mod_code_23 ?_
    refine lv_bipush (v := 12) hx hb d_Mod_code_24 (by decide) ?_
    refine lv_icmp_ne (tgt := 31) hx hb d_Mod_code_26 (by decide) (fun hc => ?_) (fun hc => ?_)
    · replace h := of_neg hc h
      refine lv_iload_n hx hb d_Mod_code_31 rfl (lv_at hl 2 rfl) ?_
      refine lv_bipush (v := 16) hx hb d_Mod_code_32 (by decide) ?_
      obtain ⟨p34, hp34, h⟩ := of_bind h
      refine rb_callSI smok C (c_Mod_below hp34) cw_Mod_69 ⟨Nat.le_of_ble_eq_true rfl, Nat.le_of_ble_eq_true rfl⟩ ⟨rfl, rfl⟩ hI ⟨Nat.zero_le _, Nat.zero_le _⟩ (As := [.int x1, .int 16]) rfl hl.1 (rest := []) (Nat.le_of_ble_eq_true rfl) rfl d_Mod_code_34 (fun H locs hI => ?_)
      refine lv_if_ne (tgt := 42) hx hb d_Mod_code_37 (by decide) (fun hc => ?_) (fun hc => ?_)
      · replace h := of_neg hc h
        refine lv_aload_n hx hb d_Mod_code_42 rfl (lv_at hl 1 rfl) ?_
        refine lv_iload_n hx hb d_Mod_code_43 rfl (lv_at hl 2 rfl) ?_
        refine lv_iload_n hx hb d_Mod_code_44 rfl (lv_at hl 3 rfl) ?_
        refine lv_iload_n hx hb d_Mod_code_45 rfl (lv_at hl 4 rfl) ?_
        refine lv_iload hx hb d_Mod_code_46 (lv_at hl 5 rfl) ?_
        obtain ⟨p48, hp48, h⟩ := of_bind h
        refine rb_callI smok C (c_Mod_fits hp48) cw_Mod_84 ⟨Nat.le_of_ble_eq_true rfl, Nat.le_of_ble_eq_true rfl⟩ ⟨rfl, rfl⟩ (q0 := 0) (ci := 4) rfl rfl hI ⟨Nat.zero_le _, Nat.zero_le _⟩ (As := [.int x1, .int x2, .int x3, .int x4]) rfl hl.1 (rest := []) (Nat.le_of_ble_eq_true rfl) rfl d_Mod_code_48 (fun H locs hI => ?_)
        refine lv_if_ne (tgt := 56) hx hb d_Mod_code_51 (by decide) (fun hc => ?_) (fun hc => ?_)
        · replace h := of_neg hc h
          refine lv_bipush (v := 48) hx hb d_Mod_code_56 (by decide) ?_
          refine lv_iload hx hb d_Mod_code_58 (lv_at hl 0 rfl) ?_
          refine lv_imul hx hb d_Mod_code_60 ?_
          refine lv_iconst (v := 4) hx hb d_Mod_code_61 (by decide) ?_
          refine lv_aload_n hx hb d_Mod_code_62 rfl (lv_at hl 1 rfl) ?_
          refine gf_Mod_22 C hI d_Mod_code_63 ?_
          refine lv_iload hx hb d_Mod_code_66 (lv_at hl 0 rfl) ?_
          obtain ⟨hg68, h⟩ := of_guard h
          refine al_M_4 C hI (f := p48.2.2 4) rfl hg68 d_Mod_code_68 ?_
          refine lv_imul hx hb d_Mod_code_69 ?_
          refine lv_iadd hx hb d_Mod_code_70 ?_
          refine lv_istore (lv' := [(6, .int (((48 : Int32) * ((σ.1 3) - 1)) + ((4 : Int32) * ((p48.2.2 4) ((σ.1 3) - 1).toNatClampNeg)))), (5, .int ((σ.1 3) - 1)), (0, .ref (a 0)), (1, .int x1), (2, .int x2), (3, .int x3), (4, .int x4)]) hx hb d_Mod_code_71 hl (by decide) rfl (fun ls hl => ?_)
          refine lv_aload_n hx hb d_Mod_code_73 rfl (lv_at hl 2 rfl) ?_
          refine gf_Mod_25 C hI d_Mod_code_74 ?_
          refine lv_iload hx hb d_Mod_code_77 (lv_at hl 0 rfl) ?_
          refine lv_iload_n hx hb d_Mod_code_79 rfl (lv_at hl 3 rfl) ?_
          obtain ⟨hg80, h⟩ := of_guard h
          refine as_M_5 C hI (σ' := (p48.2.1, va_up p48.2.2 5 (upd (p48.2.2 5) (((48 : Int32) * ((σ.1 3) - 1)) + ((4 : Int32) * ((p48.2.2 4) ((σ.1 3) - 1).toNatClampNeg))).toNatClampNeg x1))) rfl hg80 d_Mod_code_80 (fun H locs hI => ?_)
          refine lv_aload_n hx hb d_Mod_code_81 rfl (lv_at hl 2 rfl) ?_
          refine gf_Mod_25 C hI d_Mod_code_82 ?_
          refine lv_iload hx hb d_Mod_code_85 (lv_at hl 0 rfl) ?_
          refine lv_iconst (v := 1) hx hb d_Mod_code_87 (by decide) ?_
          refine lv_iadd hx hb d_Mod_code_88 ?_
          refine lv_iload_n hx hb d_Mod_code_89 rfl (lv_at hl 4 rfl) ?_
          obtain ⟨hg90, h⟩ := of_guard h
          refine as_M_5 C hI (σ' := (p48.2.1, va_up (va_up p48.2.2 5 (upd (p48.2.2 5) (((48 : Int32) * ((σ.1 3) - 1)) + ((4 : Int32) * ((p48.2.2 4) ((σ.1 3) - 1).toNatClampNeg))).toNatClampNeg x1)) 5 (upd (upd (p48.2.2 5) (((48 : Int32) * ((σ.1 3) - 1)) + ((4 : Int32) * ((p48.2.2 4) ((σ.1 3) - 1).toNatClampNeg))).toNatClampNeg x1) ((((48 : Int32) * ((σ.1 3) - 1)) + ((4 : Int32) * ((p48.2.2 4) ((σ.1 3) - 1).toNatClampNeg))) + 1).toNatClampNeg x2))) rfl hg90 d_Mod_code_90 (fun H locs hI => ?_)
          refine lv_aload_n hx hb d_Mod_code_91 rfl (lv_at hl 2 rfl) ?_
          refine gf_Mod_25 C hI d_Mod_code_92 ?_
          refine lv_iload hx hb d_Mod_code_95 (lv_at hl 0 rfl) ?_
          refine lv_iconst (v := 2) hx hb d_Mod_code_97 (by decide) ?_
          refine lv_iadd hx hb d_Mod_code_98 ?_
          refine lv_iload_n hx hb d_Mod_code_99 rfl (lv_at hl 5 rfl) ?_
          obtain ⟨hg100, h⟩ := of_guard h
          refine as_M_5 C hI (σ' := (p48.2.1, va_up (va_up (va_up p48.2.2 5 (upd (p48.2.2 5) (((48 : Int32) * ((σ.1 3) - 1)) + ((4 : Int32) * ((p48.2.2 4) ((σ.1 3) - 1).toNatClampNeg))).toNatClampNeg x1)) 5 (upd (upd (p48.2.2 5) (((48 : Int32) * ((σ.1 3) - 1)) + ((4 : Int32) * ((p48.2.2 4) ((σ.1 3) - 1).toNatClampNeg))).toNatClampNeg x1) ((((48 : Int32) * ((σ.1 3) - 1)) + ((4 : Int32) * ((p48.2.2 4) ((σ.1 3) - 1).toNatClampNeg))) + 1).toNatClampNeg x2)) 5 (upd (upd (upd (p48.2.2 5) (((48 : Int32) * ((σ.1 3) - 1)) + ((4 : Int32) * ((p48.2.2 4) ((σ.1 3) - 1).toNatClampNeg))).toNatClampNeg x1) ((((48 : Int32) * ((σ.1 3) - 1)) + ((4 : Int32) * ((p48.2.2 4) ((σ.1 3) - 1).toNatClampNeg))) + 1).toNatClampNeg x2) ((((48 : Int32) * ((σ.1 3) - 1)) + ((4 : Int32) * ((p48.2.2 4) ((σ.1 3) - 1).toNatClampNeg))) + 2).toNatClampNeg x3))) rfl hg100 d_Mod_code_100 (fun H locs hI => ?_)
          refine lv_aload_n hx hb d_Mod_code_101 rfl (lv_at hl 2 rfl) ?_
          refine gf_Mod_25 C hI d_Mod_code_102 ?_
          refine lv_iload hx hb d_Mod_code_105 (lv_at hl 0 rfl) ?_
          refine lv_iconst (v := 3) hx hb d_Mod_code_107 (by decide) ?_
          refine lv_iadd hx hb d_Mod_code_108 ?_
          refine lv_iload hx hb d_Mod_code_109 (lv_at hl 6 rfl) ?_
          obtain ⟨hg111, h⟩ := of_guard h
          refine as_M_5 C hI (σ' := (p48.2.1, va_up (va_up (va_up (va_up p48.2.2 5 (upd (p48.2.2 5) (((48 : Int32) * ((σ.1 3) - 1)) + ((4 : Int32) * ((p48.2.2 4) ((σ.1 3) - 1).toNatClampNeg))).toNatClampNeg x1)) 5 (upd (upd (p48.2.2 5) (((48 : Int32) * ((σ.1 3) - 1)) + ((4 : Int32) * ((p48.2.2 4) ((σ.1 3) - 1).toNatClampNeg))).toNatClampNeg x1) ((((48 : Int32) * ((σ.1 3) - 1)) + ((4 : Int32) * ((p48.2.2 4) ((σ.1 3) - 1).toNatClampNeg))) + 1).toNatClampNeg x2)) 5 (upd (upd (upd (p48.2.2 5) (((48 : Int32) * ((σ.1 3) - 1)) + ((4 : Int32) * ((p48.2.2 4) ((σ.1 3) - 1).toNatClampNeg))).toNatClampNeg x1) ((((48 : Int32) * ((σ.1 3) - 1)) + ((4 : Int32) * ((p48.2.2 4) ((σ.1 3) - 1).toNatClampNeg))) + 1).toNatClampNeg x2) ((((48 : Int32) * ((σ.1 3) - 1)) + ((4 : Int32) * ((p48.2.2 4) ((σ.1 3) - 1).toNatClampNeg))) + 2).toNatClampNeg x3)) 5 (upd (upd (upd (upd (p48.2.2 5) (((48 : Int32) * ((σ.1 3) - 1)) + ((4 : Int32) * ((p48.2.2 4) ((σ.1 3) - 1).toNatClampNeg))).toNatClampNeg x1) ((((48 : Int32) * ((σ.1 3) - 1)) + ((4 : Int32) * ((p48.2.2 4) ((σ.1 3) - 1).toNatClampNeg))) + 1).toNatClampNeg x2) ((((48 : Int32) * ((σ.1 3) - 1)) + ((4 : Int32) * ((p48.2.2 4) ((σ.1 3) - 1).toNatClampNeg))) + 2).toNatClampNeg x3) ((((48 : Int32) * ((σ.1 3) - 1)) + ((4 : Int32) * ((p48.2.2 4) ((σ.1 3) - 1).toNatClampNeg))) + 3).toNatClampNeg x4))) rfl hg111 d_Mod_code_111 (fun H locs hI => ?_)
          refine lv_aload_n hx hb d_Mod_code_112 rfl (lv_at hl 2 rfl) ?_
          refine gf_Mod_22 C hI d_Mod_code_113 ?_
          refine lv_iload hx hb d_Mod_code_116 (lv_at hl 1 rfl) ?_
          refine lv_dup2_11 hx hb d_Mod_code_118 rfl rfl ?_
          obtain ⟨hg119, h⟩ := of_guard h
          refine al_M_4 C hI (f := p48.2.2 4) rfl hg119 d_Mod_code_119 ?_
          refine lv_iconst (v := 1) hx hb d_Mod_code_120 (by decide) ?_
          refine lv_iadd hx hb d_Mod_code_121 ?_
          obtain ⟨hg122, h⟩ := of_guard h
          refine as_M_4 C hI (σ' := (p48.2.1, va_up (va_up (va_up (va_up (va_up p48.2.2 5 (upd (p48.2.2 5) (((48 : Int32) * ((σ.1 3) - 1)) + ((4 : Int32) * ((p48.2.2 4) ((σ.1 3) - 1).toNatClampNeg))).toNatClampNeg x1)) 5 (upd (upd (p48.2.2 5) (((48 : Int32) * ((σ.1 3) - 1)) + ((4 : Int32) * ((p48.2.2 4) ((σ.1 3) - 1).toNatClampNeg))).toNatClampNeg x1) ((((48 : Int32) * ((σ.1 3) - 1)) + ((4 : Int32) * ((p48.2.2 4) ((σ.1 3) - 1).toNatClampNeg))) + 1).toNatClampNeg x2)) 5 (upd (upd (upd (p48.2.2 5) (((48 : Int32) * ((σ.1 3) - 1)) + ((4 : Int32) * ((p48.2.2 4) ((σ.1 3) - 1).toNatClampNeg))).toNatClampNeg x1) ((((48 : Int32) * ((σ.1 3) - 1)) + ((4 : Int32) * ((p48.2.2 4) ((σ.1 3) - 1).toNatClampNeg))) + 1).toNatClampNeg x2) ((((48 : Int32) * ((σ.1 3) - 1)) + ((4 : Int32) * ((p48.2.2 4) ((σ.1 3) - 1).toNatClampNeg))) + 2).toNatClampNeg x3)) 5 (upd (upd (upd (upd (p48.2.2 5) (((48 : Int32) * ((σ.1 3) - 1)) + ((4 : Int32) * ((p48.2.2 4) ((σ.1 3) - 1).toNatClampNeg))).toNatClampNeg x1) ((((48 : Int32) * ((σ.1 3) - 1)) + ((4 : Int32) * ((p48.2.2 4) ((σ.1 3) - 1).toNatClampNeg))) + 1).toNatClampNeg x2) ((((48 : Int32) * ((σ.1 3) - 1)) + ((4 : Int32) * ((p48.2.2 4) ((σ.1 3) - 1).toNatClampNeg))) + 2).toNatClampNeg x3) ((((48 : Int32) * ((σ.1 3) - 1)) + ((4 : Int32) * ((p48.2.2 4) ((σ.1 3) - 1).toNatClampNeg))) + 3).toNatClampNeg x4)) 4 (upd (p48.2.2 4) ((σ.1 3) - 1).toNatClampNeg (((p48.2.2 4) ((σ.1 3) - 1).toNatClampNeg) + 1)))) rfl hg122 d_Mod_code_122 (fun H locs hI => ?_)
          refine lv_iconst (v := 0) hx hb d_Mod_code_123 (by decide) ?_
          replace h := Option.some.inj h
          subst h
          exact rb_retI C hr hI d_Mod_code_124
        · replace h := of_pos hc h
          refine lv_iconst (v := 4) hx hb d_Mod_code_54 (by decide) ?_
          replace h := Option.some.inj h
          subst h
          exact rb_retI C hr hI d_Mod_code_55
      · replace h := of_pos hc h
        refine lv_iconst (v := 3) hx hb d_Mod_code_40 (by decide) ?_
        replace h := Option.some.inj h
        subst h
        exact rb_retI C hr hI d_Mod_code_41
    · replace h := of_pos hc h
      refine lv_iconst (v := 2) hx hb d_Mod_code_29 (by decide) ?_
      replace h := Option.some.inj h
      subst h
      exact rb_retI C hr hI d_Mod_code_30
  · replace h := of_pos hc h
    refine lv_iconst (v := 1) hx hb d_Mod_code_7 (by decide) ?_
    replace h := Option.some.inj h
    subst h
    exact rb_retI C hr hI d_Mod_code_8
theorem d_Mod_seal_0 : decode b_Mod_seal 0 = .ok (.aload_n 0, 1) := by decide +kernel
theorem d_Mod_seal_1 : decode b_Mod_seal 1 = .ok (.getfield 73, 3) := by decide +kernel
theorem d_Mod_seal_4 : decode b_Mod_seal 4 = .ok (.ifCond .ne 5, 3) := by decide +kernel
theorem d_Mod_seal_7 : decode b_Mod_seal 7 = .ok (.iconst 0, 1) := by decide +kernel
theorem d_Mod_seal_8 : decode b_Mod_seal 8 = .ok (.ireturn, 1) := by decide +kernel
theorem d_Mod_seal_9 : decode b_Mod_seal 9 = .ok (.aload_n 0, 1) := by decide +kernel
theorem d_Mod_seal_10 : decode b_Mod_seal 10 = .ok (.getfield 77, 3) := by decide +kernel
theorem d_Mod_seal_13 : decode b_Mod_seal 13 = .ok (.iconst 1, 1) := by decide +kernel
theorem d_Mod_seal_14 : decode b_Mod_seal 14 = .ok (.isub, 1) := by decide +kernel
theorem d_Mod_seal_15 : decode b_Mod_seal 15 = .ok (.istore_n 1, 1) := by decide +kernel
theorem d_Mod_seal_16 : decode b_Mod_seal 16 = .ok (.aload_n 0, 1) := by decide +kernel
theorem d_Mod_seal_17 : decode b_Mod_seal 17 = .ok (.getfield 22, 3) := by decide +kernel
theorem d_Mod_seal_20 : decode b_Mod_seal 20 = .ok (.iload_n 1, 1) := by decide +kernel
theorem d_Mod_seal_21 : decode b_Mod_seal 21 = .ok (.iaload, 1) := by decide +kernel
theorem d_Mod_seal_22 : decode b_Mod_seal 22 = .ok (.ifCond .eq 18, 3) := by decide +kernel
theorem d_Mod_seal_25 : decode b_Mod_seal 25 = .ok (.aload_n 0, 1) := by decide +kernel
theorem d_Mod_seal_26 : decode b_Mod_seal 26 = .ok (.getfield 19, 3) := by decide +kernel
theorem d_Mod_seal_29 : decode b_Mod_seal 29 = .ok (.iload_n 1, 1) := by decide +kernel
theorem d_Mod_seal_30 : decode b_Mod_seal 30 = .ok (.iaload, 1) := by decide +kernel
theorem d_Mod_seal_31 : decode b_Mod_seal 31 = .ok (.aload_n 0, 1) := by decide +kernel
theorem d_Mod_seal_32 : decode b_Mod_seal 32 = .ok (.getfield 22, 3) := by decide +kernel
theorem d_Mod_seal_35 : decode b_Mod_seal 35 = .ok (.iload_n 1, 1) := by decide +kernel
theorem d_Mod_seal_36 : decode b_Mod_seal 36 = .ok (.iaload, 1) := by decide +kernel
theorem d_Mod_seal_37 : decode b_Mod_seal 37 = .ok (.if_icmp .lt 5, 3) := by decide +kernel
theorem d_Mod_seal_40 : decode b_Mod_seal 40 = .ok (.iconst 0, 1) := by decide +kernel
theorem d_Mod_seal_41 : decode b_Mod_seal 41 = .ok (.ireturn, 1) := by decide +kernel
theorem d_Mod_seal_42 : decode b_Mod_seal 42 = .ok (.aload_n 0, 1) := by decide +kernel
theorem d_Mod_seal_43 : decode b_Mod_seal 43 = .ok (.getfield 25, 3) := by decide +kernel
theorem d_Mod_seal_46 : decode b_Mod_seal 46 = .ok (.bipush 48, 2) := by decide +kernel
theorem d_Mod_seal_48 : decode b_Mod_seal 48 = .ok (.iload_n 1, 1) := by decide +kernel
theorem d_Mod_seal_49 : decode b_Mod_seal 49 = .ok (.imul, 1) := by decide +kernel
theorem d_Mod_seal_50 : decode b_Mod_seal 50 = .ok (.iconst 4, 1) := by decide +kernel
theorem d_Mod_seal_51 : decode b_Mod_seal 51 = .ok (.aload_n 0, 1) := by decide +kernel
theorem d_Mod_seal_52 : decode b_Mod_seal 52 = .ok (.getfield 22, 3) := by decide +kernel
theorem d_Mod_seal_55 : decode b_Mod_seal 55 = .ok (.iload_n 1, 1) := by decide +kernel
theorem d_Mod_seal_56 : decode b_Mod_seal 56 = .ok (.iaload, 1) := by decide +kernel
theorem d_Mod_seal_57 : decode b_Mod_seal 57 = .ok (.imul, 1) := by decide +kernel
theorem d_Mod_seal_58 : decode b_Mod_seal 58 = .ok (.iadd, 1) := by decide +kernel
theorem d_Mod_seal_59 : decode b_Mod_seal 59 = .ok (.iconst 4, 1) := by decide +kernel
theorem d_Mod_seal_60 : decode b_Mod_seal 60 = .ok (.isub, 1) := by decide +kernel
theorem d_Mod_seal_61 : decode b_Mod_seal 61 = .ok (.iaload, 1) := by decide +kernel
theorem d_Mod_seal_62 : decode b_Mod_seal 62 = .ok (.istore_n 2, 1) := by decide +kernel
theorem d_Mod_seal_63 : decode b_Mod_seal 63 = .ok (.iload_n 2, 1) := by decide +kernel
theorem d_Mod_seal_64 : decode b_Mod_seal 64 = .ok (.bipush 9, 2) := by decide +kernel
theorem d_Mod_seal_66 : decode b_Mod_seal 66 = .ok (.if_icmp .eq 17, 3) := by decide +kernel
theorem d_Mod_seal_69 : decode b_Mod_seal 69 = .ok (.iload_n 2, 1) := by decide +kernel
theorem d_Mod_seal_70 : decode b_Mod_seal 70 = .ok (.bipush 13, 2) := by decide +kernel
theorem d_Mod_seal_72 : decode b_Mod_seal 72 = .ok (.if_icmp .eq 11, 3) := by decide +kernel
theorem d_Mod_seal_75 : decode b_Mod_seal 75 = .ok (.iload_n 2, 1) := by decide +kernel
theorem d_Mod_seal_76 : decode b_Mod_seal 76 = .ok (.bipush 14, 2) := by decide +kernel
theorem d_Mod_seal_78 : decode b_Mod_seal 78 = .ok (.if_icmp .eq 5, 3) := by decide +kernel
theorem d_Mod_seal_81 : decode b_Mod_seal 81 = .ok (.iconst 0, 1) := by decide +kernel
theorem d_Mod_seal_82 : decode b_Mod_seal 82 = .ok (.ireturn, 1) := by decide +kernel
theorem d_Mod_seal_83 : decode b_Mod_seal 83 = .ok (.iconst 0, 1) := by decide +kernel
theorem d_Mod_seal_84 : decode b_Mod_seal 84 = .ok (.istore_n 3, 1) := by decide +kernel
theorem d_Mod_seal_85 : decode b_Mod_seal 85 = .ok (.iload_n 3, 1) := by decide +kernel
theorem d_Mod_seal_86 : decode b_Mod_seal 86 = .ok (.aload_n 0, 1) := by decide +kernel
theorem d_Mod_seal_87 : decode b_Mod_seal 87 = .ok (.getfield 22, 3) := by decide +kernel
theorem d_Mod_seal_90 : decode b_Mod_seal 90 = .ok (.iload_n 1, 1) := by decide +kernel
theorem d_Mod_seal_91 : decode b_Mod_seal 91 = .ok (.iaload, 1) := by decide +kernel
theorem d_Mod_seal_92 : decode b_Mod_seal 92 = .ok (.if_icmp .ge 64, 3) := by decide +kernel
theorem d_Mod_seal_95 : decode b_Mod_seal 95 = .ok (.aload_n 0, 1) := by decide +kernel
theorem d_Mod_seal_96 : decode b_Mod_seal 96 = .ok (.getfield 25, 3) := by decide +kernel
theorem d_Mod_seal_99 : decode b_Mod_seal 99 = .ok (.bipush 48, 2) := by decide +kernel
theorem d_Mod_seal_101 : decode b_Mod_seal 101 = .ok (.iload_n 1, 1) := by decide +kernel
theorem d_Mod_seal_102 : decode b_Mod_seal 102 = .ok (.imul, 1) := by decide +kernel
theorem d_Mod_seal_103 : decode b_Mod_seal 103 = .ok (.iconst 4, 1) := by decide +kernel
theorem d_Mod_seal_104 : decode b_Mod_seal 104 = .ok (.iload_n 3, 1) := by decide +kernel
theorem d_Mod_seal_105 : decode b_Mod_seal 105 = .ok (.imul, 1) := by decide +kernel
theorem d_Mod_seal_106 : decode b_Mod_seal 106 = .ok (.iadd, 1) := by decide +kernel
theorem d_Mod_seal_107 : decode b_Mod_seal 107 = .ok (.iaload, 1) := by decide +kernel
theorem d_Mod_seal_108 : decode b_Mod_seal 108 = .ok (.istore 4, 2) := by decide +kernel
theorem d_Mod_seal_110 : decode b_Mod_seal 110 = .ok (.iload 4, 2) := by decide +kernel
theorem d_Mod_seal_112 : decode b_Mod_seal 112 = .ok (.bipush 9, 2) := by decide +kernel
theorem d_Mod_seal_114 : decode b_Mod_seal 114 = .ok (.if_icmp .lt 36, 3) := by decide +kernel
theorem d_Mod_seal_117 : decode b_Mod_seal 117 = .ok (.iload 4, 2) := by decide +kernel
theorem d_Mod_seal_119 : decode b_Mod_seal 119 = .ok (.bipush 11, 2) := by decide +kernel
theorem d_Mod_seal_121 : decode b_Mod_seal 121 = .ok (.if_icmp .gt 29, 3) := by decide +kernel
theorem d_Mod_seal_124 : decode b_Mod_seal 124 = .ok (.aload_n 0, 1) := by decide +kernel
theorem d_Mod_seal_125 : decode b_Mod_seal 125 = .ok (.getfield 25, 3) := by decide +kernel
theorem d_Mod_seal_128 : decode b_Mod_seal 128 = .ok (.bipush 48, 2) := by decide +kernel
theorem d_Mod_seal_130 : decode b_Mod_seal 130 = .ok (.iload_n 1, 1) := by decide +kernel
theorem d_Mod_seal_131 : decode b_Mod_seal 131 = .ok (.imul, 1) := by decide +kernel
theorem d_Mod_seal_132 : decode b_Mod_seal 132 = .ok (.iconst 4, 1) := by decide +kernel
theorem d_Mod_seal_133 : decode b_Mod_seal 133 = .ok (.iload_n 3, 1) := by decide +kernel
theorem d_Mod_seal_134 : decode b_Mod_seal 134 = .ok (.imul, 1) := by decide +kernel
theorem d_Mod_seal_135 : decode b_Mod_seal 135 = .ok (.iadd, 1) := by decide +kernel
theorem d_Mod_seal_136 : decode b_Mod_seal 136 = .ok (.iconst 3, 1) := by decide +kernel
theorem d_Mod_seal_137 : decode b_Mod_seal 137 = .ok (.iadd, 1) := by decide +kernel
theorem d_Mod_seal_138 : decode b_Mod_seal 138 = .ok (.iaload, 1) := by decide +kernel
theorem d_Mod_seal_139 : decode b_Mod_seal 139 = .ok (.aload_n 0, 1) := by decide +kernel
theorem d_Mod_seal_140 : decode b_Mod_seal 140 = .ok (.getfield 22, 3) := by decide +kernel
theorem d_Mod_seal_143 : decode b_Mod_seal 143 = .ok (.iload_n 1, 1) := by decide +kernel
theorem d_Mod_seal_144 : decode b_Mod_seal 144 = .ok (.iaload, 1) := by decide +kernel
theorem d_Mod_seal_145 : decode b_Mod_seal 145 = .ok (.if_icmp .lt 5, 3) := by decide +kernel
theorem d_Mod_seal_148 : decode b_Mod_seal 148 = .ok (.iconst 0, 1) := by decide +kernel
theorem d_Mod_seal_149 : decode b_Mod_seal 149 = .ok (.ireturn, 1) := by decide +kernel
theorem d_Mod_seal_150 : decode b_Mod_seal 150 = .ok (.iinc 3 1, 3) := by decide +kernel
theorem d_Mod_seal_153 : decode b_Mod_seal 153 = .ok (.goto (-68), 3) := by decide +kernel
theorem d_Mod_seal_156 : decode b_Mod_seal 156 = .ok (.aload_n 0, 1) := by decide +kernel
theorem d_Mod_seal_157 : decode b_Mod_seal 157 = .ok (.iconst 0, 1) := by decide +kernel
theorem d_Mod_seal_158 : decode b_Mod_seal 158 = .ok (.putfield 73, 3) := by decide +kernel
theorem d_Mod_seal_161 : decode b_Mod_seal 161 = .ok (.iconst 1, 1) := by decide +kernel
theorem d_Mod_seal_162 : decode b_Mod_seal 162 = .ok (.ireturn, 1) := by decide +kernel
abbrev rm_Mod_seal : Room := { frames := 0, cells := 0, slots := 0, locals := 0 }
set_option maxHeartbeats 4000000 in
set_option maxRecDepth 100000 in
theorem j_Mod_seal_B85_J150 {l : Launch} {dC : Nat → ClassId} {dI : Nat → Nat → Nat} {a : Nat → Nat} {cI cZ : ClassId} {pr : Program} {e : Env} {s : State} {m : MethodId} {args : Array Value} {below : List Frame} {meth : Method} {c : Code} {A : Nat → Prop} {ls : Array Slot} {H : Heap} {locs : List Loc} {σ : St} {x1 x3 : Int32} {q : Nat × (Int32 × St)} {Q : State → Prop} (C : Cx (dC, dI) clA (tyM cI cZ) SXm pr s m args meth c b_Mod_seal 5 y_Mod_seal.cls A) (h : fMod_seal_B85_J150 σ x1 x3 = some q) (hl : lv_has ls 5 [(0, .ref (a 0)), (1, .int x1), (3, .int x3)]) (hI : Wi (dC, dI) clA (wM a cI cZ σ) s A H locs) (kC : q.1 = 1 → ∀ (ls : Array Slot) (H : Heap) (locs : List Loc), lv_has ls 5 [(0, .ref (a 0)), (1, .int x1), (3, .int q.2.1)] → Wi (dC, dI) clA (wM a cI cZ q.2.2) s A H locs → W pr l e rm_Mod_seal s m args below meth c H locs 0 0 Q (F0 m 85 ls [])) (kX0 : q.1 = 0 → ∀ (ls : Array Slot) (H : Heap) (locs : List Loc), lv_has ls 5 [(0, .ref (a 0)), (1, .int x1), (3, .int q.2.1)] → Wi (dC, dI) clA (wM a cI cZ q.2.2) s A H locs → W pr l e rm_Mod_seal s m args below meth c H locs 0 0 Q (F0 m 156 ls [])) (kX2 : q.1 = 2 → ∀ (ls : Array Slot) (H : Heap) (locs : List Loc), lv_has ls 5 [(0, .ref (a 0)), (1, .int x1), (3, .int q.2.1)] → Wi (dC, dI) clA (wM a cI cZ q.2.2) s A H locs → W pr l e rm_Mod_seal s m args below meth c H locs 0 0 Q (F0 m 148 ls [])) : W pr l e rm_Mod_seal s m args below meth c H locs 0 0 Q (F0 m 150 ls []) := by
  have hx := C.1
  have hb := C.2.1
  unfold fMod_seal_B85_J150 at h
  refine lv_iinc (k := 2) (v := x3 + 1) (lv' := [(3, .int (x3 + 1)), (0, .ref (a 0)), (1, .int x1)]) hx hb d_Mod_seal_150 hl rfl rfl (by decide) rfl (fun ls hl => ?_)
  refine lv_goto (tgt := 85) hx hb d_Mod_seal_153 (by decide) ?_
  replace h := Option.some.inj h
  subst h
  exact kC rfl _ _ _ (lv_sub hl [1, 2, 0] rfl) hI
set_option maxHeartbeats 4000000 in
set_option maxRecDepth 100000 in
theorem b_Mod_seal_B85 {l : Launch} {dC : Nat → ClassId} {dI : Nat → Nat → Nat} {a : Nat → Nat} {cI cZ : ClassId} {pr : Program} {e : Env} {s : State} {m : MethodId} {args : Array Value} {below : List Frame} {meth : Method} {c : Code} {A : Nat → Prop} {ls : Array Slot} {H : Heap} {locs : List Loc} {x1 : Int32} {s0 : Int32 × St} {q : Nat × (Int32 × St)} {Q : State → Prop} (C : Cx (dC, dI) clA (tyM cI cZ) SXm pr s m args meth c b_Mod_seal 5 y_Mod_seal.cls A) (h : fMod_seal_B85 x1 s0 = some q) (hl : lv_has ls 5 [(0, .ref (a 0)), (1, .int x1), (3, .int s0.1)]) (hI : Wi (dC, dI) clA (wM a cI cZ s0.2) s A H locs) (kC : q.1 = 1 → ∀ (ls : Array Slot) (H : Heap) (locs : List Loc), lv_has ls 5 [(0, .ref (a 0)), (1, .int x1), (3, .int q.2.1)] → Wi (dC, dI) clA (wM a cI cZ q.2.2) s A H locs → W pr l e rm_Mod_seal s m args below meth c H locs 0 0 Q (F0 m 85 ls [])) (kX0 : q.1 = 0 → ∀ (ls : Array Slot) (H : Heap) (locs : List Loc), lv_has ls 5 [(0, .ref (a 0)), (1, .int x1), (3, .int q.2.1)] → Wi (dC, dI) clA (wM a cI cZ q.2.2) s A H locs → W pr l e rm_Mod_seal s m args below meth c H locs 0 0 Q (F0 m 156 ls [])) (kX2 : q.1 = 2 → ∀ (ls : Array Slot) (H : Heap) (locs : List Loc), lv_has ls 5 [(0, .ref (a 0)), (1, .int x1), (3, .int q.2.1)] → Wi (dC, dI) clA (wM a cI cZ q.2.2) s A H locs → W pr l e rm_Mod_seal s m args below meth c H locs 0 0 Q (F0 m 148 ls [])) : W pr l e rm_Mod_seal s m args below meth c H locs 0 0 Q (F0 m 85 ls []) := by
  have hx := C.1
  have hb := C.2.1
  unfold fMod_seal_B85 at h
  refine lv_iload_n hx hb d_Mod_seal_85 rfl (lv_at hl 2 rfl) ?_
  refine lv_aload_n hx hb d_Mod_seal_86 rfl (lv_at hl 0 rfl) ?_
  refine gf_Mod_22 C hI d_Mod_seal_87 ?_
  refine lv_iload_n hx hb d_Mod_seal_90 rfl (lv_at hl 1 rfl) ?_
  obtain ⟨hg91, h⟩ := of_guard h
  refine al_M_4 C hI (f := s0.2.2 4) rfl hg91 d_Mod_seal_91 ?_
  refine lv_icmp_ge (tgt := 156) hx hb d_Mod_seal_92 (by decide) (fun hc => ?_) (fun hc => ?_)
  · replace h := of_pos hc h
    replace h := Option.some.inj h
    subst h
    exact kX0 rfl _ _ _ (lv_sub hl [0, 1, 2] rfl) hI
  · replace h := of_neg hc h
    refine lv_aload_n hx hb d_Mod_seal_95 rfl (lv_at hl 0 rfl) ?_
    refine gf_Mod_25 C hI d_Mod_seal_96 ?_
    refine lv_bipush (v := 48) hx hb d_Mod_seal_99 (by decide) ?_
    refine lv_iload_n hx hb d_Mod_seal_101 rfl (lv_at hl 1 rfl) ?_
    refine lv_imul hx hb d_Mod_seal_102 ?_
    refine lv_iconst (v := 4) hx hb d_Mod_seal_103 (by decide) ?_
    refine lv_iload_n hx hb d_Mod_seal_104 rfl (lv_at hl 2 rfl) ?_
    refine lv_imul hx hb d_Mod_seal_105 ?_
    refine lv_iadd hx hb d_Mod_seal_106 ?_
    obtain ⟨hg107, h⟩ := of_guard h
    refine al_M_5 C hI (f := s0.2.2 5) rfl hg107 d_Mod_seal_107 ?_
    refine lv_istore (lv' := [(4, .int ((s0.2.2 5) (((48 : Int32) * x1) + ((4 : Int32) * s0.1)).toNatClampNeg)), (0, .ref (a 0)), (1, .int x1), (3, .int s0.1)]) hx hb d_Mod_seal_108 hl (by decide) rfl (fun ls hl => ?_)
    refine lv_iload hx hb d_Mod_seal_110 (lv_at hl 0 rfl) ?_
    refine lv_bipush (v := 9) hx hb d_Mod_seal_112 (by decide) ?_
    refine lv_icmp_lt (tgt := 150) hx hb d_Mod_seal_114 (by decide) (fun hc => ?_) (fun hc => ?_)
    · replace h := of_pos hc h
      exact j_Mod_seal_B85_J150 C h (lv_sub hl [1, 2, 3] rfl) hI kC kX0 kX2
    · replace h := of_neg hc h
      refine lv_iload hx hb d_Mod_seal_117 (lv_at hl 0 rfl) ?_
      refine lv_bipush (v := 11) hx hb d_Mod_seal_119 (by decide) ?_
      refine lv_icmp_gt (tgt := 150) hx hb d_Mod_seal_121 (by decide) (fun hc => ?_) (fun hc => ?_)
      · replace h := of_pos hc h
        exact j_Mod_seal_B85_J150 C h (lv_sub hl [1, 2, 3] rfl) hI kC kX0 kX2
      · replace h := of_neg hc h
        refine lv_aload_n hx hb d_Mod_seal_124 rfl (lv_at hl 1 rfl) ?_
        refine gf_Mod_25 C hI d_Mod_seal_125 ?_
        refine lv_bipush (v := 48) hx hb d_Mod_seal_128 (by decide) ?_
        refine lv_iload_n hx hb d_Mod_seal_130 rfl (lv_at hl 2 rfl) ?_
        refine lv_imul hx hb d_Mod_seal_131 ?_
        refine lv_iconst (v := 4) hx hb d_Mod_seal_132 (by decide) ?_
        refine lv_iload_n hx hb d_Mod_seal_133 rfl (lv_at hl 3 rfl) ?_
        refine lv_imul hx hb d_Mod_seal_134 ?_
        refine lv_iadd hx hb d_Mod_seal_135 ?_
        refine lv_iconst (v := 3) hx hb d_Mod_seal_136 (by decide) ?_
        refine lv_iadd hx hb d_Mod_seal_137 ?_
        obtain ⟨hg138, h⟩ := of_guard h
        refine al_M_5 C hI (f := s0.2.2 5) rfl hg138 d_Mod_seal_138 ?_
        refine lv_aload_n hx hb d_Mod_seal_139 rfl (lv_at hl 1 rfl) ?_
        refine gf_Mod_22 C hI d_Mod_seal_140 ?_
        refine lv_iload_n hx hb d_Mod_seal_143 rfl (lv_at hl 2 rfl) ?_
        obtain ⟨hg144, h⟩ := of_guard h
        refine al_M_4 C hI (f := s0.2.2 4) rfl hg144 d_Mod_seal_144 ?_
        refine lv_icmp_lt (tgt := 150) hx hb d_Mod_seal_145 (by decide) (fun hc => ?_) (fun hc => ?_)
        · replace h := of_pos hc h
          exact j_Mod_seal_B85_J150 C h (lv_sub hl [1, 2, 3] rfl) hI kC kX0 kX2
        · replace h := of_neg hc h
          replace h := Option.some.inj h
          subst h
          exact kX2 rfl _ _ _ (lv_sub hl [1, 2, 3] rfl) hI
set_option maxHeartbeats 4000000 in
set_option maxRecDepth 100000 in
theorem l_Mod_seal_B85 {l : Launch} {dC : Nat → ClassId} {dI : Nat → Nat → Nat} {a : Nat → Nat} {cI cZ : ClassId} {pr : Program} {e : Env} {s : State} {m : MethodId} {args : Array Value} {below : List Frame} {meth : Method} {c : Code} {A : Nat → Prop} {x1 : Int32} {Q : State → Prop} (C : Cx (dC, dI) clA (tyM cI cZ) SXm pr s m args meth c b_Mod_seal 5 y_Mod_seal.cls A) : ∀ (k : Nat) (s0 : Int32 × St) (q : Nat × (Int32 × St)) (ls : Array Slot) (H : Heap) (locs : List Loc), rbLoop (fMod_seal_B85 x1) k s0 = some q → lv_has ls 5 [(0, .ref (a 0)), (1, .int x1), (3, .int s0.1)] → Wi (dC, dI) clA (wM a cI cZ s0.2) s A H locs → (q.1 = 0 → ∀ (ls : Array Slot) (H : Heap) (locs : List Loc), lv_has ls 5 [(0, .ref (a 0)), (1, .int x1), (3, .int q.2.1)] → Wi (dC, dI) clA (wM a cI cZ q.2.2) s A H locs → W pr l e rm_Mod_seal s m args below meth c H locs 0 0 Q (F0 m 156 ls [])) → (q.1 = 2 → ∀ (ls : Array Slot) (H : Heap) (locs : List Loc), lv_has ls 5 [(0, .ref (a 0)), (1, .int x1), (3, .int q.2.1)] → Wi (dC, dI) clA (wM a cI cZ q.2.2) s A H locs → W pr l e rm_Mod_seal s m args below meth c H locs 0 0 Q (F0 m 148 ls [])) → W pr l e rm_Mod_seal s m args below meth c H locs 0 0 Q (F0 m 85 ls []) := by
  intro k
  induction k with
  | zero => intro s0 q ls H locs h; cases h
  | succ k ih =>
    intro s0 q ls H locs h hl hI kX0 kX2
    obtain ⟨q1, hq1, h⟩ := rbLoop_succ h
    by_cases hc : q1.1 = 1
    · replace h := of_pos hc h
      refine b_Mod_seal_B85 C hq1 hl hI (fun _ ls H locs hl hI => ih _ _ _ _ _ h hl hI kX0 kX2) (fun hz => absurd (hc.symm.trans hz) (by decide)) (fun hz => absurd (hc.symm.trans hz) (by decide))
    · replace h := of_neg hc h
      cases h
      exact b_Mod_seal_B85 C hq1 hl hI (fun hz => absurd hz hc) kX0 kX2
set_option maxHeartbeats 4000000 in
set_option maxRecDepth 100000 in
theorem j_Mod_seal_J83 {l : Launch} {dC : Nat → ClassId} {dI : Nat → Nat → Nat} {a : Nat → Nat} {cI cZ : ClassId} {pr : Program} {e : Env} {s : State} {m : MethodId} {args : Array Value} {below : List Frame} {meth : Method} {c : Code} {A : Nat → Prop} {ls : Array Slot} {H : Heap} {locs : List Loc} {σ : St} {x1 : Int32} {q : Int32 × St} (C : Cx (dC, dI) clA (tyM cI cZ) SXm pr s m args meth c b_Mod_seal 5 y_Mod_seal.cls A) (hr : meth.sig.returnType = (some .boolean)) (h : fMod_seal_J83 σ x1 = some q) (hl : lv_has ls 5 [(0, .ref (a 0)), (1, .int x1)]) (hI : Wi (dC, dI) clA (wM a cI cZ σ) s A H locs)  : W pr l e rm_Mod_seal s m args below meth c H locs 0 0 (MQ below (rb_Qi (dC, dI) clA (tyM cI cZ) (wM a cI cZ q.2) q.1 A) args s 0 0 A) (F0 m 83 ls []) := by
  have hx := C.1
  have hb := C.2.1
  unfold fMod_seal_J83 at h
  refine lv_iconst (v := 0) hx hb d_Mod_seal_83 (by decide) ?_
  refine lv_istore_n (lv' := [(3, .int 0), (0, .ref (a 0)), (1, .int x1)]) hx hb d_Mod_seal_84 rfl hl (by decide) rfl (fun ls hl => ?_)
  obtain ⟨q85, hq85, h⟩ := of_bind h
  refine l_Mod_seal_B85 C _ _ _ _ _ _ hq85 (lv_sub hl [1, 2, 0] rfl) hI ?_ ?_
  · intro hq ls H locs hl hI
    replace h := of_pos hq h
    refine lv_aload_n hx hb d_Mod_seal_156 rfl (lv_at hl 0 rfl) ?_
    refine lv_iconst (v := 0) hx hb d_Mod_seal_157 (by decide) ?_
    refine pf_Mod_73 C hI (σ' := (upd q85.2.2.1 4 0, q85.2.2.2)) rfl (by decide) d_Mod_seal_158 (fun H locs hI => ?_)
    refine lv_iconst (v := 1) hx hb d_Mod_seal_161 (by decide) ?_
    replace h := Option.some.inj h
    subst h
    exact rb_retZ C hr (Or.inr rfl) hI d_Mod_seal_162
  · intro hq ls H locs hl hI
    replace h := of_neg (by rw [hq]; decide) h
    refine lv_iconst (v := 0) hx hb d_Mod_seal_148 (by decide) ?_
    replace h := Option.some.inj h
    subst h
    exact rb_retZ C hr (Or.inl rfl) hI d_Mod_seal_149
set_option maxHeartbeats 4000000 in
set_option maxRecDepth 100000 in
theorem c_Mod_seal {l : Launch} {dC : Nat → ClassId} {dI : Nat → Nat → Nat} {a : Nat → Nat} {cI cZ : ClassId} {σ : St} {q : Int32 × St} (h : fMod_seal σ = some q) : CI l (dC, dI) clA (tyM cI cZ) SXm (wM a cI cZ σ) (wM a cI cZ q.2) y_Mod_seal b_Mod_seal 5 (some .boolean) rm_Mod_seal [.ref (a 0)] q.1 := by
  refine CI_of (by decide) (Nat.le_of_ble_eq_true rfl) ?_
  intro pr e s m below meth c A ls C hr hl hI
  have hx := C.1
  have hb := C.2.1
  have hl : lv_has ls 5 [(0, .ref (a 0))] := hl
  unfold fMod_seal at h
  refine lv_aload_n hx hb d_Mod_seal_0 rfl (lv_at hl 0 rfl) ?_
  refine gf_Mod_73 C hI (v := σ.1 4) rfl d_Mod_seal_1 ?_
  refine lv_if_ne (tgt := 9) hx hb d_Mod_seal_4 (by decide) (fun hc => ?_) (fun hc => ?_)
  · replace h := of_neg hc h
    refine lv_aload_n hx hb d_Mod_seal_9 rfl (lv_at hl 0 rfl) ?_
    refine gf_Mod_77 C hI (v := σ.1 3) rfl d_Mod_seal_10 ?_
    refine lv_iconst (v := 1) hx hb d_Mod_seal_13 (by decide) ?_
    refine lv_isub hx hb d_Mod_seal_14 ?_
    refine lv_istore_n (lv' := [(1, .int ((σ.1 3) - 1)), (0, .ref (a 0))]) hx hb d_Mod_seal_15 rfl hl (by decide) rfl (fun ls hl => ?_)
    refine lv_aload_n hx hb d_Mod_seal_16 rfl (lv_at hl 1 rfl) ?_
    refine gf_Mod_22 C hI d_Mod_seal_17 ?_
    refine lv_iload_n hx hb d_Mod_seal_20 rfl (lv_at hl 0 rfl) ?_
    obtain ⟨hg21, h⟩ := of_guard h
    refine al_M_4 C hI (f := σ.2 4) rfl hg21 d_Mod_seal_21 ?_
    refine lv_if_eq (tgt := 40) hx hb d_Mod_seal_22 (by decide) (fun hc => ?_) (fun hc => ?_)
    · replace h := of_pos hc h
      refine lv_iconst (v := 0) hx hb d_Mod_seal_40 (by decide) ?_
      replace h := Option.some.inj h
      subst h
      exact rb_retZ C hr (Or.inl rfl) hI d_Mod_seal_41
    · replace h := of_neg hc h
      refine lv_aload_n hx hb d_Mod_seal_25 rfl (lv_at hl 1 rfl) ?_
      refine gf_Mod_19 C hI d_Mod_seal_26 ?_
      refine lv_iload_n hx hb d_Mod_seal_29 rfl (lv_at hl 0 rfl) ?_
      obtain ⟨hg30, h⟩ := of_guard h
      refine al_M_3 C hI (f := σ.2 3) rfl hg30 d_Mod_seal_30 ?_
      refine lv_aload_n hx hb d_Mod_seal_31 rfl (lv_at hl 1 rfl) ?_
      refine gf_Mod_22 C hI d_Mod_seal_32 ?_
      refine lv_iload_n hx hb d_Mod_seal_35 rfl (lv_at hl 0 rfl) ?_
      obtain ⟨hg36, h⟩ := of_guard h
      refine al_M_4 C hI (f := σ.2 4) rfl hg36 d_Mod_seal_36 ?_
      refine lv_icmp_lt (tgt := 42) hx hb d_Mod_seal_37 (by decide) (fun hc => ?_) (fun hc => ?_)
      · replace h := of_pos hc h
        refine lv_aload_n hx hb d_Mod_seal_42 rfl (lv_at hl 1 rfl) ?_
        refine gf_Mod_25 C hI d_Mod_seal_43 ?_
        refine lv_bipush (v := 48) hx hb d_Mod_seal_46 (by decide) ?_
        refine lv_iload_n hx hb d_Mod_seal_48 rfl (lv_at hl 0 rfl) ?_
        refine lv_imul hx hb d_Mod_seal_49 ?_
        refine lv_iconst (v := 4) hx hb d_Mod_seal_50 (by decide) ?_
        refine lv_aload_n hx hb d_Mod_seal_51 rfl (lv_at hl 1 rfl) ?_
        refine gf_Mod_22 C hI d_Mod_seal_52 ?_
        refine lv_iload_n hx hb d_Mod_seal_55 rfl (lv_at hl 0 rfl) ?_
        obtain ⟨hg56, h⟩ := of_guard h
        refine al_M_4 C hI (f := σ.2 4) rfl hg56 d_Mod_seal_56 ?_
        refine lv_imul hx hb d_Mod_seal_57 ?_
        refine lv_iadd hx hb d_Mod_seal_58 ?_
        refine lv_iconst (v := 4) hx hb d_Mod_seal_59 (by decide) ?_
        refine lv_isub hx hb d_Mod_seal_60 ?_
        obtain ⟨hg61, h⟩ := of_guard h
        refine al_M_5 C hI (f := σ.2 5) rfl hg61 d_Mod_seal_61 ?_
        refine lv_istore_n (lv' := [(2, .int ((σ.2 5) ((((48 : Int32) * ((σ.1 3) - 1)) + ((4 : Int32) * ((σ.2 4) ((σ.1 3) - 1).toNatClampNeg))) - 4).toNatClampNeg)), (1, .int ((σ.1 3) - 1)), (0, .ref (a 0))]) hx hb d_Mod_seal_62 rfl hl (by decide) rfl (fun ls hl => ?_)
        refine lv_iload_n hx hb d_Mod_seal_63 rfl (lv_at hl 0 rfl) ?_
        refine lv_bipush (v := 9) hx hb d_Mod_seal_64 (by decide) ?_
        refine lv_icmp_eq (tgt := 83) hx hb d_Mod_seal_66 (by decide) (fun hc => ?_) (fun hc => ?_)
        · replace h := of_pos hc h
          exact j_Mod_seal_J83 C hr h (lv_sub hl [2, 1] rfl) hI
        · replace h := of_neg hc h
          refine lv_iload_n hx hb d_Mod_seal_69 rfl (lv_at hl 0 rfl) ?_
          refine lv_bipush (v := 13) hx hb d_Mod_seal_70 (by decide) ?_
          refine lv_icmp_eq (tgt := 83) hx hb d_Mod_seal_72 (by decide) (fun hc => ?_) (fun hc => ?_)
          · replace h := of_pos hc h
            exact j_Mod_seal_J83 C hr h (lv_sub hl [2, 1] rfl) hI
          · replace h := of_neg hc h
            refine lv_iload_n hx hb d_Mod_seal_75 rfl (lv_at hl 0 rfl) ?_
            refine lv_bipush (v := 14) hx hb d_Mod_seal_76 (by decide) ?_
            refine lv_icmp_eq (tgt := 83) hx hb d_Mod_seal_78 (by decide) (fun hc => ?_) (fun hc => ?_)
            · replace h := of_pos hc h
              exact j_Mod_seal_J83 C hr h (lv_sub hl [2, 1] rfl) hI
            · replace h := of_neg hc h
              refine lv_iconst (v := 0) hx hb d_Mod_seal_81 (by decide) ?_
              replace h := Option.some.inj h
              subst h
              exact rb_retZ C hr (Or.inl rfl) hI d_Mod_seal_82
      · replace h := of_neg hc h
        refine lv_iconst (v := 0) hx hb d_Mod_seal_40 (by decide) ?_
        replace h := Option.some.inj h
        subst h
        exact rb_retZ C hr (Or.inl rfl) hI d_Mod_seal_41
  · replace h := of_pos hc h
    refine lv_iconst (v := 0) hx hb d_Mod_seal_7 (by decide) ?_
    replace h := Option.some.inj h
    subst h
    exact rb_retZ C hr (Or.inl rfl) hI d_Mod_seal_8
theorem d_Mod_drop_0 : decode b_Mod_drop 0 = .ok (.aload_n 0, 1) := by decide +kernel
theorem d_Mod_drop_1 : decode b_Mod_drop 1 = .ok (.getfield 73, 3) := by decide +kernel
theorem d_Mod_drop_4 : decode b_Mod_drop 4 = .ok (.ifCond .ne 5, 3) := by decide +kernel
theorem d_Mod_drop_7 : decode b_Mod_drop 7 = .ok (.iconst 0, 1) := by decide +kernel
theorem d_Mod_drop_8 : decode b_Mod_drop 8 = .ok (.ireturn, 1) := by decide +kernel
theorem d_Mod_drop_9 : decode b_Mod_drop 9 = .ok (.aload_n 0, 1) := by decide +kernel
theorem d_Mod_drop_10 : decode b_Mod_drop 10 = .ok (.iconst 0, 1) := by decide +kernel
theorem d_Mod_drop_11 : decode b_Mod_drop 11 = .ok (.putfield 73, 3) := by decide +kernel
theorem d_Mod_drop_14 : decode b_Mod_drop 14 = .ok (.aload_n 0, 1) := by decide +kernel
theorem d_Mod_drop_15 : decode b_Mod_drop 15 = .ok (.dup, 1) := by decide +kernel
theorem d_Mod_drop_16 : decode b_Mod_drop 16 = .ok (.getfield 77, 3) := by decide +kernel
theorem d_Mod_drop_19 : decode b_Mod_drop 19 = .ok (.iconst 1, 1) := by decide +kernel
theorem d_Mod_drop_20 : decode b_Mod_drop 20 = .ok (.isub, 1) := by decide +kernel
theorem d_Mod_drop_21 : decode b_Mod_drop 21 = .ok (.putfield 77, 3) := by decide +kernel
theorem d_Mod_drop_24 : decode b_Mod_drop 24 = .ok (.iconst 1, 1) := by decide +kernel
theorem d_Mod_drop_25 : decode b_Mod_drop 25 = .ok (.ireturn, 1) := by decide +kernel
abbrev rm_Mod_drop : Room := { frames := 0, cells := 0, slots := 0, locals := 0 }
set_option maxHeartbeats 4000000 in
set_option maxRecDepth 100000 in
theorem c_Mod_drop {l : Launch} {dC : Nat → ClassId} {dI : Nat → Nat → Nat} {a : Nat → Nat} {cI cZ : ClassId} {σ : St} {q : Int32 × St} (h : fMod_drop σ = some q) : CI l (dC, dI) clA (tyM cI cZ) SXm (wM a cI cZ σ) (wM a cI cZ q.2) y_Mod_drop b_Mod_drop 1 (some .boolean) rm_Mod_drop [.ref (a 0)] q.1 := by
  refine CI_of (by decide) (Nat.le_of_ble_eq_true rfl) ?_
  intro pr e s m below meth c A ls C hr hl hI
  have hx := C.1
  have hb := C.2.1
  have hl : lv_has ls 1 [(0, .ref (a 0))] := hl
  unfold fMod_drop at h
  refine lv_aload_n hx hb d_Mod_drop_0 rfl (lv_at hl 0 rfl) ?_
  refine gf_Mod_73 C hI (v := σ.1 4) rfl d_Mod_drop_1 ?_
  refine lv_if_ne (tgt := 9) hx hb d_Mod_drop_4 (by decide) (fun hc => ?_) (fun hc => ?_)
  · replace h := of_neg hc h
    refine lv_aload_n hx hb d_Mod_drop_9 rfl (lv_at hl 0 rfl) ?_
    refine lv_iconst (v := 0) hx hb d_Mod_drop_10 (by decide) ?_
    refine pf_Mod_73 C hI (σ' := (upd σ.1 4 0, σ.2)) rfl (by decide) d_Mod_drop_11 (fun H locs hI => ?_)
    refine lv_aload_n hx hb d_Mod_drop_14 rfl (lv_at hl 0 rfl) ?_
    refine lv_dup hx hb d_Mod_drop_15 rfl ?_
    refine gf_Mod_77 C hI (v := σ.1 3) rfl d_Mod_drop_16 ?_
    refine lv_iconst (v := 1) hx hb d_Mod_drop_19 (by decide) ?_
    refine lv_isub hx hb d_Mod_drop_20 ?_
    refine pf_Mod_77 C hI (σ' := (upd (upd σ.1 4 0) 3 ((σ.1 3) - 1), σ.2)) rfl d_Mod_drop_21 (fun H locs hI => ?_)
    refine lv_iconst (v := 1) hx hb d_Mod_drop_24 (by decide) ?_
    replace h := Option.some.inj h
    subst h
    exact rb_retZ C hr (Or.inr rfl) hI d_Mod_drop_25
  · replace h := of_pos hc h
    refine lv_iconst (v := 0) hx hb d_Mod_drop_7 (by decide) ?_
    replace h := Option.some.inj h
    subst h
    exact rb_retZ C hr (Or.inl rfl) hI d_Mod_drop_8
theorem d_Mod_manyRefs_0 : decode b_Mod_manyRefs 0 = .ok (.aload_n 0, 1) := by decide +kernel
theorem d_Mod_manyRefs_1 : decode b_Mod_manyRefs 1 = .ok (.getfield 31, 3) := by decide +kernel
theorem d_Mod_manyRefs_4 : decode b_Mod_manyRefs 4 = .ok (.iload_n 1, 1) := by decide +kernel
theorem d_Mod_manyRefs_5 : decode b_Mod_manyRefs 5 = .ok (.iaload, 1) := by decide +kernel
theorem d_Mod_manyRefs_6 : decode b_Mod_manyRefs 6 = .ok (.iconst (-1), 1) := by decide +kernel
theorem d_Mod_manyRefs_7 : decode b_Mod_manyRefs 7 = .ok (.if_icmp .ne 7, 3) := by decide +kernel
theorem d_Mod_manyRefs_10 : decode b_Mod_manyRefs 10 = .ok (.iconst 4, 1) := by decide +kernel
theorem d_Mod_manyRefs_11 : decode b_Mod_manyRefs 11 = .ok (.goto 14, 3) := by decide +kernel
theorem d_Mod_manyRefs_14 : decode b_Mod_manyRefs 14 = .ok (.aload_n 0, 1) := by decide +kernel
theorem d_Mod_manyRefs_15 : decode b_Mod_manyRefs 15 = .ok (.getfield 7, 3) := by decide +kernel
theorem d_Mod_manyRefs_18 : decode b_Mod_manyRefs 18 = .ok (.aload_n 0, 1) := by decide +kernel
theorem d_Mod_manyRefs_19 : decode b_Mod_manyRefs 19 = .ok (.getfield 31, 3) := by decide +kernel
theorem d_Mod_manyRefs_22 : decode b_Mod_manyRefs 22 = .ok (.iload_n 1, 1) := by decide +kernel
theorem d_Mod_manyRefs_23 : decode b_Mod_manyRefs 23 = .ok (.iaload, 1) := by decide +kernel
theorem d_Mod_manyRefs_24 : decode b_Mod_manyRefs 24 = .ok (.iaload, 1) := by decide +kernel
theorem d_Mod_manyRefs_25 : decode b_Mod_manyRefs 25 = .ok (.ireturn, 1) := by decide +kernel
abbrev rm_Mod_manyRefs : Room := { frames := 0, cells := 0, slots := 0, locals := 0 }
set_option maxHeartbeats 4000000 in
set_option maxRecDepth 100000 in
theorem c_Mod_manyRefs {l : Launch} {dC : Nat → ClassId} {dI : Nat → Nat → Nat} {a : Nat → Nat} {cI cZ : ClassId} {σ : St} {x1 : Int32} {q : Int32 × St} (h : fMod_manyRefs σ x1 = some q) : CI l (dC, dI) clA (tyM cI cZ) SXm (wM a cI cZ σ) (wM a cI cZ q.2) y_Mod_manyRefs b_Mod_manyRefs 2 (some .int) rm_Mod_manyRefs [.ref (a 0), .int x1] q.1 := by
  refine CI_of (by decide) (Nat.le_of_ble_eq_true rfl) ?_
  intro pr e s m below meth c A ls C hr hl hI
  have hx := C.1
  have hb := C.2.1
  have hl : lv_has ls 2 [(0, .ref (a 0)), (1, .int x1)] := hl
  unfold fMod_manyRefs at h
  refine lv_aload_n hx hb d_Mod_manyRefs_0 rfl (lv_at hl 0 rfl) ?_
  refine gf_Mod_31 C hI d_Mod_manyRefs_1 ?_
  refine lv_iload_n hx hb d_Mod_manyRefs_4 rfl (lv_at hl 1 rfl) ?_
  obtain ⟨hg5, h⟩ := of_guard h
  refine al_M_7 C hI (f := σ.2 7) rfl hg5 d_Mod_manyRefs_5 ?_
  refine lv_iconst (v := (-1)) hx hb d_Mod_manyRefs_6 (by decide) ?_
  refine lv_icmp_ne (tgt := 14) hx hb d_Mod_manyRefs_7 (by decide) (fun hc => ?_) (fun hc => ?_)
  · replace h := of_neg hc h
    refine lv_aload_n hx hb d_Mod_manyRefs_14 rfl (lv_at hl 0 rfl) ?_
    refine gf_Mod_7 C hI d_Mod_manyRefs_15 ?_
    refine lv_aload_n hx hb d_Mod_manyRefs_18 rfl (lv_at hl 0 rfl) ?_
    refine gf_Mod_31 C hI d_Mod_manyRefs_19 ?_
    refine lv_iload_n hx hb d_Mod_manyRefs_22 rfl (lv_at hl 1 rfl) ?_
    obtain ⟨hg23, h⟩ := of_guard h
    refine al_M_7 C hI (f := σ.2 7) rfl hg23 d_Mod_manyRefs_23 ?_
    obtain ⟨hg24, h⟩ := of_guard h
    refine al_M_0 C hI (f := σ.2 0) rfl hg24 d_Mod_manyRefs_24 ?_
    replace h := Option.some.inj h
    subst h
    exact rb_retI C hr hI d_Mod_manyRefs_25
  · replace h := of_pos hc h
    refine lv_iconst (v := 4) hx hb d_Mod_manyRefs_10 (by decide) ?_
    refine lv_goto (tgt := 25) hx hb d_Mod_manyRefs_11 (by decide) ?_
    replace h := Option.some.inj h
    subst h
    exact rb_retI C hr hI d_Mod_manyRefs_25
