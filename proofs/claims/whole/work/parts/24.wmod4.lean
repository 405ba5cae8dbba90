theorem d_Mod_call_0 : decode b_Mod_call 0 = .ok (.iconst 4, 1) := by decide +kernel
theorem d_Mod_call_1 : decode b_Mod_call 1 = .ok (.aload_n 0, 1) := by decide +kernel
theorem d_Mod_call_2 : decode b_Mod_call 2 = .ok (.getfield 120, 3) := by decide +kernel
theorem d_Mod_call_5 : decode b_Mod_call 5 = .ok (.imul, 1) := by decide +kernel
theorem d_Mod_call_6 : decode b_Mod_call 6 = .ok (.istore 4, 2) := by decide +kernel
theorem d_Mod_call_8 : decode b_Mod_call 8 = .ok (.aload_n 0, 1) := by decide +kernel
theorem d_Mod_call_9 : decode b_Mod_call 9 = .ok (.iload 4, 2) := by decide +kernel
theorem d_Mod_call_11 : decode b_Mod_call 11 = .ok (.iload_n 1, 1) := by decide +kernel
theorem d_Mod_call_12 : decode b_Mod_call 12 = .ok (.iadd, 1) := by decide +kernel
theorem d_Mod_call_13 : decode b_Mod_call 13 = .ok (.invokevirtual 114, 3) := by decide +kernel
theorem d_Mod_call_16 : decode b_Mod_call 16 = .ok (.ifCond .ne 4, 3) := by decide +kernel
theorem d_Mod_call_19 : decode b_Mod_call 19 = .ok (.return_, 1) := by decide +kernel
theorem d_Mod_call_20 : decode b_Mod_call 20 = .ok (.aload_n 0, 1) := by decide +kernel
theorem d_Mod_call_21 : decode b_Mod_call 21 = .ok (.getfield 37, 3) := by decide +kernel
theorem d_Mod_call_24 : decode b_Mod_call 24 = .ok (.iload 4, 2) := by decide +kernel
theorem d_Mod_call_26 : decode b_Mod_call 26 = .ok (.iload_n 1, 1) := by decide +kernel
theorem d_Mod_call_27 : decode b_Mod_call 27 = .ok (.iadd, 1) := by decide +kernel
theorem d_Mod_call_28 : decode b_Mod_call 28 = .ok (.iaload, 1) := by decide +kernel
theorem d_Mod_call_29 : decode b_Mod_call 29 = .ok (.istore 5, 2) := by decide +kernel
theorem d_Mod_call_31 : decode b_Mod_call 31 = .ok (.iload 5, 2) := by decide +kernel
theorem d_Mod_call_33 : decode b_Mod_call 33 = .ok (.iconst (-1), 1) := by decide +kernel
theorem d_Mod_call_34 : decode b_Mod_call 34 = .ok (.if_icmp .ne 9, 3) := by decide +kernel
theorem d_Mod_call_37 : decode b_Mod_call 37 = .ok (.aload_n 0, 1) := by decide +kernel
theorem d_Mod_call_38 : decode b_Mod_call 38 = .ok (.iconst 1, 1) := by decide +kernel
theorem d_Mod_call_39 : decode b_Mod_call 39 = .ok (.invokevirtual 176, 3) := by decide +kernel
theorem d_Mod_call_42 : decode b_Mod_call 42 = .ok (.return_, 1) := by decide +kernel
theorem d_Mod_call_43 : decode b_Mod_call 43 = .ok (.aload_n 0, 1) := by decide +kernel
theorem d_Mod_call_44 : decode b_Mod_call 44 = .ok (.getfield 16, 3) := by decide +kernel
theorem d_Mod_call_47 : decode b_Mod_call 47 = .ok (.iconst 4, 1) := by decide +kernel
theorem d_Mod_call_48 : decode b_Mod_call 48 = .ok (.aload_n 0, 1) := by decide +kernel
theorem d_Mod_call_49 : decode b_Mod_call 49 = .ok (.getfield 31, 3) := by decide +kernel
theorem d_Mod_call_52 : decode b_Mod_call 52 = .ok (.iload 5, 2) := by decide +kernel
theorem d_Mod_call_54 : decode b_Mod_call 54 = .ok (.iaload, 1) := by decide +kernel
theorem d_Mod_call_55 : decode b_Mod_call 55 = .ok (.imul, 1) := by decide +kernel
theorem d_Mod_call_56 : decode b_Mod_call 56 = .ok (.iload_n 3, 1) := by decide +kernel
theorem d_Mod_call_57 : decode b_Mod_call 57 = .ok (.iadd, 1) := by decide +kernel
theorem d_Mod_call_58 : decode b_Mod_call 58 = .ok (.iaload, 1) := by decide +kernel
theorem d_Mod_call_59 : decode b_Mod_call 59 = .ok (.istore 6, 2) := by decide +kernel
theorem d_Mod_call_61 : decode b_Mod_call 61 = .ok (.iload 6, 2) := by decide +kernel
theorem d_Mod_call_63 : decode b_Mod_call 63 = .ok (.iconst (-1), 1) := by decide +kernel
theorem d_Mod_call_64 : decode b_Mod_call 64 = .ok (.if_icmp .ne 9, 3) := by decide +kernel
theorem d_Mod_call_67 : decode b_Mod_call 67 = .ok (.aload_n 0, 1) := by decide +kernel
theorem d_Mod_call_68 : decode b_Mod_call 68 = .ok (.iconst 3, 1) := by decide +kernel
theorem d_Mod_call_69 : decode b_Mod_call 69 = .ok (.invokevirtual 176, 3) := by decide +kernel
theorem d_Mod_call_72 : decode b_Mod_call 72 = .ok (.return_, 1) := by decide +kernel
theorem d_Mod_call_73 : decode b_Mod_call 73 = .ok (.aload_n 0, 1) := by decide +kernel
theorem d_Mod_call_74 : decode b_Mod_call 74 = .ok (.iconst (-1), 1) := by decide +kernel
theorem d_Mod_call_75 : decode b_Mod_call 75 = .ok (.iload 6, 2) := by decide +kernel
theorem d_Mod_call_77 : decode b_Mod_call 77 = .ok (.invokevirtual 173, 3) := by decide +kernel
theorem d_Mod_call_80 : decode b_Mod_call 80 = .ok (.istore 7, 2) := by decide +kernel
theorem d_Mod_call_82 : decode b_Mod_call 82 = .ok (.aload_n 0, 1) := by decide +kernel
theorem d_Mod_call_83 : decode b_Mod_call 83 = .ok (.getfield 53, 3) := by decide +kernel
theorem d_Mod_call_86 : decode b_Mod_call 86 = .ok (.ifCond .ne 25, 3) := by decide +kernel
theorem d_Mod_call_89 : decode b_Mod_call 89 = .ok (.aload_n 0, 1) := by decide +kernel
theorem d_Mod_call_90 : decode b_Mod_call 90 = .ok (.iload 4, 2) := by decide +kernel
theorem d_Mod_call_92 : decode b_Mod_call 92 = .ok (.iload_n 1, 1) := by decide +kernel
theorem d_Mod_call_93 : decode b_Mod_call 93 = .ok (.iadd, 1) := by decide +kernel
theorem d_Mod_call_94 : decode b_Mod_call 94 = .ok (.invokevirtual 114, 3) := by decide +kernel
theorem d_Mod_call_97 : decode b_Mod_call 97 = .ok (.ifCond .eq 14, 3) := by decide +kernel
theorem d_Mod_call_100 : decode b_Mod_call 100 = .ok (.aload_n 0, 1) := by decide +kernel
theorem d_Mod_call_101 : decode b_Mod_call 101 = .ok (.iload 4, 2) := by decide +kernel
theorem d_Mod_call_103 : decode b_Mod_call 103 = .ok (.iload_n 2, 1) := by decide +kernel
theorem d_Mod_call_104 : decode b_Mod_call 104 = .ok (.iadd, 1) := by decide +kernel
theorem d_Mod_call_105 : decode b_Mod_call 105 = .ok (.invokevirtual 114, 3) := by decide +kernel
theorem d_Mod_call_108 : decode b_Mod_call 108 = .ok (.ifCond .ne 4, 3) := by decide +kernel
theorem d_Mod_call_111 : decode b_Mod_call 111 = .ok (.return_, 1) := by decide +kernel
theorem d_Mod_call_112 : decode b_Mod_call 112 = .ok (.aload_n 0, 1) := by decide +kernel
theorem d_Mod_call_113 : decode b_Mod_call 113 = .ok (.getfield 37, 3) := by decide +kernel
theorem d_Mod_call_116 : decode b_Mod_call 116 = .ok (.iconst 4, 1) := by decide +kernel
theorem d_Mod_call_117 : decode b_Mod_call 117 = .ok (.iload 7, 2) := by decide +kernel
theorem d_Mod_call_119 : decode b_Mod_call 119 = .ok (.imul, 1) := by decide +kernel
theorem d_Mod_call_120 : decode b_Mod_call 120 = .ok (.aload_n 0, 1) := by decide +kernel
theorem d_Mod_call_121 : decode b_Mod_call 121 = .ok (.getfield 37, 3) := by decide +kernel
theorem d_Mod_call_124 : decode b_Mod_call 124 = .ok (.iload 4, 2) := by decide +kernel
theorem d_Mod_call_126 : decode b_Mod_call 126 = .ok (.iload_n 1, 1) := by decide +kernel
theorem d_Mod_call_127 : decode b_Mod_call 127 = .ok (.iadd, 1) := by decide +kernel
theorem d_Mod_call_128 : decode b_Mod_call 128 = .ok (.iaload, 1) := by decide +kernel
theorem d_Mod_call_129 : decode b_Mod_call 129 = .ok (.iastore, 1) := by decide +kernel
theorem d_Mod_call_130 : decode b_Mod_call 130 = .ok (.aload_n 0, 1) := by decide +kernel
theorem d_Mod_call_131 : decode b_Mod_call 131 = .ok (.getfield 37, 3) := by decide +kernel
theorem d_Mod_call_134 : decode b_Mod_call 134 = .ok (.iconst 4, 1) := by decide +kernel
theorem d_Mod_call_135 : decode b_Mod_call 135 = .ok (.iload 7, 2) := by decide +kernel
theorem d_Mod_call_137 : decode b_Mod_call 137 = .ok (.imul, 1) := by decide +kernel
theorem d_Mod_call_138 : decode b_Mod_call 138 = .ok (.iconst 1, 1) := by decide +kernel
theorem d_Mod_call_139 : decode b_Mod_call 139 = .ok (.iadd, 1) := by decide +kernel
theorem d_Mod_call_140 : decode b_Mod_call 140 = .ok (.aload_n 0, 1) := by decide +kernel
theorem d_Mod_call_141 : decode b_Mod_call 141 = .ok (.getfield 37, 3) := by decide +kernel
theorem d_Mod_call_144 : decode b_Mod_call 144 = .ok (.iload 4, 2) := by decide +kernel
theorem d_Mod_call_146 : decode b_Mod_call 146 = .ok (.iload_n 2, 1) := by decide +kernel
theorem d_Mod_call_147 : decode b_Mod_call 147 = .ok (.iadd, 1) := by decide +kernel
theorem d_Mod_call_148 : decode b_Mod_call 148 = .ok (.iaload, 1) := by decide +kernel
theorem d_Mod_call_149 : decode b_Mod_call 149 = .ok (.iastore, 1) := by decide +kernel
theorem d_Mod_call_150 : decode b_Mod_call 150 = .ok (.aload_n 0, 1) := by decide +kernel
theorem d_Mod_call_151 : decode b_Mod_call 151 = .ok (.getfield 37, 3) := by decide +kernel
theorem d_Mod_call_154 : decode b_Mod_call 154 = .ok (.iconst 4, 1) := by decide +kernel
theorem d_Mod_call_155 : decode b_Mod_call 155 = .ok (.iload 7, 2) := by decide +kernel
theorem d_Mod_call_157 : decode b_Mod_call 157 = .ok (.imul, 1) := by decide +kernel
theorem d_Mod_call_158 : decode b_Mod_call 158 = .ok (.iconst 3, 1) := by decide +kernel
theorem d_Mod_call_159 : decode b_Mod_call 159 = .ok (.iadd, 1) := by decide +kernel
theorem d_Mod_call_160 : decode b_Mod_call 160 = .ok (.aload_n 0, 1) := by decide +kernel
theorem d_Mod_call_161 : decode b_Mod_call 161 = .ok (.getfield 120, 3) := by decide +kernel
theorem d_Mod_call_164 : decode b_Mod_call 164 = .ok (.iastore, 1) := by decide +kernel
theorem d_Mod_call_165 : decode b_Mod_call 165 = .ok (.aload_n 0, 1) := by decide +kernel
theorem d_Mod_call_166 : decode b_Mod_call 166 = .ok (.getfield 40, 3) := by decide +kernel
theorem d_Mod_call_169 : decode b_Mod_call 169 = .ok (.iconst 4, 1) := by decide +kernel
theorem d_Mod_call_170 : decode b_Mod_call 170 = .ok (.iload 7, 2) := by decide +kernel
theorem d_Mod_call_172 : decode b_Mod_call 172 = .ok (.imul, 1) := by decide +kernel
theorem d_Mod_call_173 : decode b_Mod_call 173 = .ok (.aload_n 0, 1) := by decide +kernel
theorem d_Mod_call_174 : decode b_Mod_call 174 = .ok (.getfield 40, 3) := by decide +kernel
theorem d_Mod_call_177 : decode b_Mod_call 177 = .ok (.iload 4, 2) := by decide +kernel
theorem d_Mod_call_179 : decode b_Mod_call 179 = .ok (.iaload, 1) := by decide +kernel
theorem d_Mod_call_180 : decode b_Mod_call 180 = .ok (.iastore, 1) := by decide +kernel
theorem d_Mod_call_181 : decode b_Mod_call 181 = .ok (.aload_n 0, 1) := by decide +kernel
theorem d_Mod_call_182 : decode b_Mod_call 182 = .ok (.iload 7, 2) := by decide +kernel
theorem d_Mod_call_184 : decode b_Mod_call 184 = .ok (.putfield 120, 3) := by decide +kernel
theorem d_Mod_call_187 : decode b_Mod_call 187 = .ok (.return_, 1) := by decide +kernel
abbrev rm_Mod_call : Room := { frames := 5, cells := 0, slots := 0, locals := 109 }
set_option maxHeartbeats 4000000 in
set_option maxRecDepth 100000 in
theorem c_Mod_call {l : Launch} {dC : Nat → ClassId} {dI : Nat → Nat → Nat} {a : Nat → Nat} {cI cZ : ClassId} {σ : St} {x1 x2 x3 : Int32} {q : St} (h : fMod_call σ x1 x2 x3 = some q) : CV l (dC, dI) clA (tyM cI cZ) SXm (wM a cI cZ σ) (wM a cI cZ q) y_Mod_call b_Mod_call 8 none rm_Mod_call [.ref (a 0), .int x1, .int x2, .int x3] := by
  refine CV_of (by decide) (Nat.le_of_ble_eq_true rfl) ?_
  intro pr e s m below meth c A ls C hr hl hI
  have hx := C.1
  have hb := C.2.1
  have hl : lv_has ls 8 [(0, .ref (a 0)), (1, .int x1), (2, .int x2), (3, .int x3)] := hl
  unfold fMod_call at h
  refine lv_iconst (v := 4) hx hb d_Mod_call_0 (by decide) ?_
  refine lv_aload_n hx hb d_Mod_call_1 rfl (lv_at hl 0 rfl) ?_
  refine gf_Mod_120 C hI (v := σ.1 9) rfl d_Mod_call_2 ?_
  refine lv_imul hx hb d_Mod_call_5 ?_
  refine lv_istore (lv' := [(4, .int ((4 : Int32) * (σ.1 9))), (0, .ref (a 0)), (1, .int x1), (2, .int x2), (3, .int x3)]) hx hb d_Mod_call_6 hl (by decide) rfl (fun ls hl => ?_)
  refine lv_aload_n hx hb d_Mod_call_8 rfl (lv_at hl 1 rfl) ?_
  refine lv_iload hx hb d_Mod_call_9 (lv_at hl 0 rfl) ?_
  refine lv_iload_n hx hb d_Mod_call_11 rfl (lv_at hl 2 rfl) ?_
  refine lv_iadd hx hb d_Mod_call_12 ?_
  obtain ⟨p13, hp13, h⟩ := of_bind h
  refine rb_callI smok C (c_Mod_read hp13) cw_Mod_114 ⟨Nat.le_of_ble_eq_true rfl, Nat.le_of_ble_eq_true rfl⟩ ⟨rfl, rfl⟩ (q0 := 0) (ci := 4) rfl rfl hI ⟨Nat.zero_le _, Nat.zero_le _⟩ (As := [.int (((4 : Int32) * (σ.1 9)) + x1)]) rfl hl.1 (rest := []) (Nat.le_of_ble_eq_true rfl) rfl d_Mod_call_13 (fun H locs hI => ?_)
  refine lv_if_ne (tgt := 20) hx hb d_Mod_call_16 (by decide) (fun hc => ?_) (fun hc => ?_)
  · replace h := of_neg hc h
    refine lv_aload_n hx hb d_Mod_call_20 rfl (lv_at hl 1 rfl) ?_
    refine gf_Mod_37 C hI d_Mod_call_21 ?_
    refine lv_iload hx hb d_Mod_call_24 (lv_at hl 0 rfl) ?_
    refine lv_iload_n hx hb d_Mod_call_26 rfl (lv_at hl 2 rfl) ?_
    refine lv_iadd hx hb d_Mod_call_27 ?_
    obtain ⟨hg28, h⟩ := of_guard h
    refine al_M_9 C hI (f := p13.2.2 9) rfl hg28 d_Mod_call_28 ?_
    refine lv_istore (lv' := [(5, .int ((p13.2.2 9) (((4 : Int32) * (σ.1 9)) + x1).toNatClampNeg)), (4, .int ((4 : Int32) * (σ.1 9))), (0, .ref (a 0)), (1, .int x1), (2, .int x2), (3, .int x3)]) hx hb d_Mod_call_29 hl (by decide) rfl (fun ls hl => ?_)
    refine lv_iload hx hb d_Mod_call_31 (lv_at hl 0 rfl) ?_
    refine lv_iconst (v := (-1)) hx hb d_Mod_call_33 (by decide) ?_
    refine lv_icmp_ne (tgt := 43) hx hb d_Mod_call_34 (by decide) (fun hc => ?_) (fun hc => ?_)
    · replace h := of_neg hc h
      refine lv_aload_n hx hb d_Mod_call_43 rfl (lv_at hl 2 rfl) ?_
      refine gf_Mod_16 C hI d_Mod_call_44 ?_
      refine lv_iconst (v := 4) hx hb d_Mod_call_47 (by decide) ?_
      refine lv_aload_n hx hb d_Mod_call_48 rfl (lv_at hl 2 rfl) ?_
      refine gf_Mod_31 C hI d_Mod_call_49 ?_
      refine lv_iload hx hb d_Mod_call_52 (lv_at hl 0 rfl) ?_
      obtain ⟨hg54, h⟩ := of_guard h
      refine al_M_7 C hI (f := p13.2.2 7) rfl hg54 d_Mod_call_54 ?_
      refine lv_imul hx hb d_Mod_call_55 ?_
      refine lv_iload_n hx hb d_Mod_call_56 rfl (lv_at hl 5 rfl) ?_
      refine lv_iadd hx hb d_Mod_call_57 ?_
      obtain ⟨hg58, h⟩ := of_guard h
      refine al_M_2 C hI (f := p13.2.2 2) rfl hg58 d_Mod_call_58 ?_
      refine lv_istore (lv' := [(6, .int ((p13.2.2 2) (((4 : Int32) * ((p13.2.2 7) ((p13.2.2 9) (((4 : Int32) * (σ.1 9)) + x1).toNatClampNeg).toNatClampNeg)) + x3).toNatClampNeg)), (5, .int ((p13.2.2 9) (((4 : Int32) * (σ.1 9)) + x1).toNatClampNeg)), (4, .int ((4 : Int32) * (σ.1 9))), (0, .ref (a 0)), (1, .int x1), (2, .int x2), (3, .int x3)]) hx hb d_Mod_call_59 hl (by decide) rfl (fun ls hl => ?_)
      refine lv_iload hx hb d_Mod_call_61 (lv_at hl 0 rfl) ?_
      refine lv_iconst (v := (-1)) hx hb d_Mod_call_63 (by decide) ?_
      refine lv_icmp_ne (tgt := 73) hx hb d_Mod_call_64 (by decide) (fun hc => ?_) (fun hc => ?_)
      · replace h := of_neg hc h
        refine lv_aload_n hx hb d_Mod_call_73 rfl (lv_at hl 3 rfl) ?_
        refine lv_iconst (v := (-1)) hx hb d_Mod_call_74 (by decide) ?_
        refine lv_iload hx hb d_Mod_call_75 (lv_at hl 0 rfl) ?_
        obtain ⟨p77, hp77, h⟩ := of_bind h
        refine rb_callI smok C (c_Mod_make hp77) cw_Mod_173 ⟨Nat.le_of_ble_eq_true rfl, Nat.le_of_ble_eq_true rfl⟩ ⟨rfl, rfl⟩ (q0 := 0) (ci := 4) rfl rfl hI ⟨Nat.zero_le _, Nat.zero_le _⟩ (As := [.int (-1), .int ((p13.2.2 2) (((4 : Int32) * ((p13.2.2 7) ((p13.2.2 9) (((4 : Int32) * (σ.1 9)) + x1).toNatClampNeg).toNatClampNeg)) + x3).toNatClampNeg)]) rfl hl.1 (rest := []) (Nat.le_of_ble_eq_true rfl) rfl d_Mod_call_77 (fun H locs hI => ?_)
        refine lv_istore (lv' := [(7, .int p77.1), (6, .int ((p13.2.2 2) (((4 : Int32) * ((p13.2.2 7) ((p13.2.2 9) (((4 : Int32) * (σ.1 9)) + x1).toNatClampNeg).toNatClampNeg)) + x3).toNatClampNeg)), (5, .int ((p13.2.2 9) (((4 : Int32) * (σ.1 9)) + x1).toNatClampNeg)), (4, .int ((4 : Int32) * (σ.1 9))), (0, .ref (a 0)), (1, .int x1), (2, .int x2), (3, .int x3)]) hx hb d_Mod_call_80 hl (by decide) rfl (fun ls hl => ?_)
        refine lv_aload_n hx hb d_Mod_call_82 rfl (lv_at hl 4 rfl) ?_
        refine gf_Mod_53 C hI (v := p77.2.1 12) rfl d_Mod_call_83 ?_
        refine lv_if_ne (tgt := 111) hx hb d_Mod_call_86 (by decide) (fun hc => ?_) (fun hc => ?_)
        · replace h := of_neg hc h
          replace h := Option.some.inj h
          subst h
          exact rb_retV C hr hI d_Mod_call_111
        · replace h := of_pos hc h
          refine lv_aload_n hx hb d_Mod_call_89 rfl (lv_at hl 4 rfl) ?_
          refine lv_iload hx hb d_Mod_call_90 (lv_at hl 3 rfl) ?_
          refine lv_iload_n hx hb d_Mod_call_92 rfl (lv_at hl 5 rfl) ?_
          refine lv_iadd hx hb d_Mod_call_93 ?_
          obtain ⟨p94, hp94, h⟩ := of_bind h
          refine rb_callI smok C (c_Mod_read hp94) cw_Mod_114 ⟨Nat.le_of_ble_eq_true rfl, Nat.le_of_ble_eq_true rfl⟩ ⟨rfl, rfl⟩ (q0 := 0) (ci := 4) rfl rfl hI ⟨Nat.zero_le _, Nat.zero_le _⟩ (As := [.int (((4 : Int32) * (σ.1 9)) + x1)]) rfl hl.1 (rest := []) (Nat.le_of_ble_eq_true rfl) rfl d_Mod_call_94 (fun H locs hI => ?_)
          refine lv_if_eq (tgt := 111) hx hb d_Mod_call_97 (by decide) (fun hc => ?_) (fun hc => ?_)
          · replace h := of_pos hc h
            replace h := Option.some.inj h
            subst h
            exact rb_retV C hr hI d_Mod_call_111
          · replace h := of_neg hc h
            refine lv_aload_n hx hb d_Mod_call_100 rfl (lv_at hl 4 rfl) ?_
            refine lv_iload hx hb d_Mod_call_101 (lv_at hl 3 rfl) ?_
            refine lv_iload_n hx hb d_Mod_call_103 rfl (lv_at hl 6 rfl) ?_
            refine lv_iadd hx hb d_Mod_call_104 ?_
            obtain ⟨p105, hp105, h⟩ := of_bind h
            refine rb_callI smok C (c_Mod_read hp105) cw_Mod_114 ⟨Nat.le_of_ble_eq_true rfl, Nat.le_of_ble_eq_true rfl⟩ ⟨rfl, rfl⟩ (q0 := 0) (ci := 4) rfl rfl hI ⟨Nat.zero_le _, Nat.zero_le _⟩ (As := [.int (((4 : Int32) * (σ.1 9)) + x2)]) rfl hl.1 (rest := []) (Nat.le_of_ble_eq_true rfl) rfl d_Mod_call_105 (fun H locs hI => ?_)
            refine lv_if_ne (tgt := 112) hx hb d_Mod_call_108 (by decide) (fun hc => ?_) (fun hc => ?_)
            · replace h := of_neg hc h
              refine lv_aload_n hx hb d_Mod_call_112 rfl (lv_at hl 4 rfl) ?_
              refine gf_Mod_37 C hI d_Mod_call_113 ?_
              refine lv_iconst (v := 4) hx hb d_Mod_call_116 (by decide) ?_
              refine lv_iload hx hb d_Mod_call_117 (lv_at hl 0 rfl) ?_
              refine lv_imul hx hb d_Mod_call_119 ?_
              refine lv_aload_n hx hb d_Mod_call_120 rfl (lv_at hl 4 rfl) ?_
              refine gf_Mod_37 C hI d_Mod_call_121 ?_
              refine lv_iload hx hb d_Mod_call_124 (lv_at hl 3 rfl) ?_
              refine lv_iload_n hx hb d_Mod_call_126 rfl (lv_at hl 5 rfl) ?_
              refine lv_iadd hx hb d_Mod_call_127 ?_
              obtain ⟨hg128, h⟩ := of_guard h
              refine al_M_9 C hI (f := p105.2.2 9) rfl hg128 d_Mod_call_128 ?_
              obtain ⟨hg129, h⟩ := of_guard h
              refine as_M_9 C hI (σ' := (p105.2.1, va_up p105.2.2 9 (upd (p105.2.2 9) ((4 : Int32) * p77.1).toNatClampNeg ((p105.2.2 9) (((4 : Int32) * (σ.1 9)) + x1).toNatClampNeg)))) rfl hg129 d_Mod_call_129 (fun H locs hI => ?_)
              refine lv_aload_n hx hb d_Mod_call_130 rfl (lv_at hl 4 rfl) ?_
              refine gf_Mod_37 C hI d_Mod_call_131 ?_
              refine lv_iconst (v := 4) hx hb d_Mod_call_134 (by decide) ?_
              refine lv_iload hx hb d_Mod_call_135 (lv_at hl 0 rfl) ?_
              refine lv_imul hx hb d_Mod_call_137 ?_
              refine lv_iconst (v := 1) hx hb d_Mod_call_138 (by decide) ?_
              refine lv_iadd hx hb d_Mod_call_139 ?_
              refine lv_aload_n hx hb d_Mod_call_140 rfl (lv_at hl 4 rfl) ?_
              refine gf_Mod_37 C hI d_Mod_call_141 ?_
              refine lv_iload hx hb d_Mod_call_144 (lv_at hl 3 rfl) ?_
              refine lv_iload_n hx hb d_Mod_call_146 rfl (lv_at hl 6 rfl) ?_
              refine lv_iadd hx hb d_Mod_call_147 ?_
              obtain ⟨hg148, h⟩ := of_guard h
              refine al_M_9 C hI (f := upd (p105.2.2 9) ((4 : Int32) * p77.1).toNatClampNeg ((p105.2.2 9) (((4 : Int32) * (σ.1 9)) + x1).toNatClampNeg)) rfl hg148 d_Mod_call_148 ?_
              obtain ⟨hg149, h⟩ := of_guard h
              refine as_M_9 C hI (σ' := (p105.2.1, va_up (va_up p105.2.2 9 (upd (p105.2.2 9) ((4 : Int32) * p77.1).toNatClampNeg ((p105.2.2 9) (((4 : Int32) * (σ.1 9)) + x1).toNatClampNeg))) 9 (upd (upd (p105.2.2 9) ((4 : Int32) * p77.1).toNatClampNeg ((p105.2.2 9) (((4 : Int32) * (σ.1 9)) + x1).toNatClampNeg)) (((4 : Int32) * p77.1) + 1).toNatClampNeg ((upd (p105.2.2 9) ((4 : Int32) * p77.1).toNatClampNeg ((p105.2.2 9) (((4 : Int32) * (σ.1 9)) + x1).toNatClampNeg)) (((4 : Int32) * (σ.1 9)) + x2).toNatClampNeg)))) rfl hg149 d_Mod_call_149 (fun H locs hI => ?_)
              refine lv_aload_n hx hb d_Mod_call_150 rfl (lv_at hl 4 rfl) ?_
              refine gf_Mod_37 C hI d_Mod_call_151 ?_
              refine lv_iconst (v := 4) hx hb d_Mod_call_154 (by decide) ?_
              refine lv_iload hx hb d_Mod_call_155 (lv_at hl 0 rfl) ?_
              refine lv_imul hx hb d_Mod_call_157 ?_
              refine lv_iconst (v := 3) hx hb d_Mod_call_158 (by decide) ?_
              refine lv_iadd hx hb d_Mod_call_159 ?_
              refine lv_aload_n hx hb d_Mod_call_160 rfl (lv_at hl 4 rfl) ?_
              refine gf_Mod_120 C hI (v := p105.2.1 9) rfl d_Mod_call_161 ?_
              obtain ⟨hg164, h⟩ := of_guard h
              refine as_M_9 C hI (σ' := (p105.2.1, va_up (va_up (va_up p105.2.2 9 (upd (p105.2.2 9) ((4 : Int32) * p77.1).toNatClampNeg ((p105.2.2 9) (((4 : Int32) * (σ.1 9)) + x1).toNatClampNeg))) 9 (upd (upd (p105.2.2 9) ((4 : Int32) * p77.1).toNatClampNeg ((p105.2.2 9) (((4 : Int32) * (σ.1 9)) + x1).toNatClampNeg)) (((4 : Int32) * p77.1) + 1).toNatClampNeg ((upd (p105.2.2 9) ((4 : Int32) * p77.1).toNatClampNeg ((p105.2.2 9) (((4 : Int32) * (σ.1 9)) + x1).toNatClampNeg)) (((4 : Int32) * (σ.1 9)) + x2).toNatClampNeg))) 9 (upd (upd (upd (p105.2.2 9) ((4 : Int32) * p77.1).toNatClampNeg ((p105.2.2 9) (((4 : Int32) * (σ.1 9)) + x1).toNatClampNeg)) (((4 : Int32) * p77.1) + 1).toNatClampNeg ((upd (p105.2.2 9) ((4 : Int32) * p77.1).toNatClampNeg ((p105.2.2 9) (((4 : Int32) * (σ.1 9)) + x1).toNatClampNeg)) (((4 : Int32) * (σ.1 9)) + x2).toNatClampNeg)) (((4 : Int32) * p77.1) + 3).toNatClampNeg (p105.2.1 9)))) rfl hg164 d_Mod_call_164 (fun H locs hI => ?_)
              refine lv_aload_n hx hb d_Mod_call_165 rfl (lv_at hl 4 rfl) ?_
              refine gf_Mod_40 C hI d_Mod_call_166 ?_
              refine lv_iconst (v := 4) hx hb d_Mod_call_169 (by decide) ?_
              refine lv_iload hx hb d_Mod_call_170 (lv_at hl 0 rfl) ?_
              refine lv_imul hx hb d_Mod_call_172 ?_
              refine lv_aload_n hx hb d_Mod_call_173 rfl (lv_at hl 4 rfl) ?_
              refine gf_Mod_40 C hI d_Mod_call_174 ?_
              refine lv_iload hx hb d_Mod_call_177 (lv_at hl 3 rfl) ?_
              obtain ⟨hg179, h⟩ := of_guard h
              refine al_M_10 C hI (f := p105.2.2 10) rfl hg179 d_Mod_call_179 ?_
              obtain ⟨hg180, h⟩ := of_guard h
              refine as_M_10 C hI (σ' := (p105.2.1, va_up (va_up (va_up (va_up p105.2.2 9 (upd (p105.2.2 9) ((4 : Int32) * p77.1).toNatClampNeg ((p105.2.2 9) (((4 : Int32) * (σ.1 9)) + x1).toNatClampNeg))) 9 (upd (upd (p105.2.2 9) ((4 : Int32) * p77.1).toNatClampNeg ((p105.2.2 9) (((4 : Int32) * (σ.1 9)) + x1).toNatClampNeg)) (((4 : Int32) * p77.1) + 1).toNatClampNeg ((upd (p105.2.2 9) ((4 : Int32) * p77.1).toNatClampNeg ((p105.2.2 9) (((4 : Int32) * (σ.1 9)) + x1).toNatClampNeg)) (((4 : Int32) * (σ.1 9)) + x2).toNatClampNeg))) 9 (upd (upd (upd (p105.2.2 9) ((4 : Int32) * p77.1).toNatClampNeg ((p105.2.2 9) (((4 : Int32) * (σ.1 9)) + x1).toNatClampNeg)) (((4 : Int32) * p77.1) + 1).toNatClampNeg ((upd (p105.2.2 9) ((4 : Int32) * p77.1).toNatClampNeg ((p105.2.2 9) (((4 : Int32) * (σ.1 9)) + x1).toNatClampNeg)) (((4 : Int32) * (σ.1 9)) + x2).toNatClampNeg)) (((4 : Int32) * p77.1) + 3).toNatClampNeg (p105.2.1 9))) 10 (upd (p105.2.2 10) ((4 : Int32) * p77.1).toNatClampNeg ((p105.2.2 10) ((4 : Int32) * (σ.1 9)).toNatClampNeg)))) rfl hg180 d_Mod_call_180 (fun H locs hI => ?_)
              refine lv_aload_n hx hb d_Mod_call_181 rfl (lv_at hl 4 rfl) ?_
              refine lv_iload hx hb d_Mod_call_182 (lv_at hl 0 rfl) ?_
              refine pf_Mod_120 C hI (σ' := (upd p105.2.1 9 p77.1, va_up (va_up (va_up (va_up p105.2.2 9 (upd (p105.2.2 9) ((4 : Int32) * p77.1).toNatClampNeg ((p105.2.2 9) (((4 : Int32) * (σ.1 9)) + x1).toNatClampNeg))) 9 (upd (upd (p105.2.2 9) ((4 : Int32) * p77.1).toNatClampNeg ((p105.2.2 9) (((4 : Int32) * (σ.1 9)) + x1).toNatClampNeg)) (((4 : Int32) * p77.1) + 1).toNatClampNeg ((upd (p105.2.2 9) ((4 : Int32) * p77.1).toNatClampNeg ((p105.2.2 9) (((4 : Int32) * (σ.1 9)) + x1).toNatClampNeg)) (((4 : Int32) * (σ.1 9)) + x2).toNatClampNeg))) 9 (upd (upd (upd (p105.2.2 9) ((4 : Int32) * p77.1).toNatClampNeg ((p105.2.2 9) (((4 : Int32) * (σ.1 9)) + x1).toNatClampNeg)) (((4 : Int32) * p77.1) + 1).toNatClampNeg ((upd (p105.2.2 9) ((4 : Int32) * p77.1).toNatClampNeg ((p105.2.2 9) (((4 : Int32) * (σ.1 9)) + x1).toNatClampNeg)) (((4 : Int32) * (σ.1 9)) + x2).toNatClampNeg)) (((4 : Int32) * p77.1) + 3).toNatClampNeg (p105.2.1 9))) 10 (upd (p105.2.2 10) ((4 : Int32) * p77.1).toNatClampNeg ((p105.2.2 10) ((4 : Int32) * (σ.1 9)).toNatClampNeg)))) rfl d_Mod_call_184 (fun H locs hI => ?_)
              replace h := Option.some.inj h
              subst h
              exact rb_retV C hr hI d_Mod_call_187
            · replace h := of_pos hc h
              replace h := Option.some.inj h
              subst h
              exact rb_retV C hr hI d_Mod_call_111
      · replace h := of_pos hc h
        refine lv_aload_n hx hb d_Mod_call_67 rfl (lv_at hl 3 rfl) ?_
        refine lv_iconst (v := 3) hx hb d_Mod_call_68 (by decide) ?_
        obtain ⟨p69, hp69, h⟩ := of_bind h
        refine rb_callV smok C (c_Mod_raise hp69) cw_Mod_176 ⟨Nat.le_of_ble_eq_true rfl, Nat.le_of_ble_eq_true rfl⟩ ⟨rfl, rfl⟩ (q0 := 0) (ci := 4) rfl rfl hI ⟨Nat.zero_le _, Nat.zero_le _⟩ (As := [.int 3]) rfl hl.1 (rest := []) (Nat.le_of_ble_eq_true rfl) rfl d_Mod_call_69 (fun H locs hI => ?_)
        replace h := Option.some.inj h
        subst h
        exact rb_retV C hr hI d_Mod_call_72
    · replace h := of_pos hc h
      refine lv_aload_n hx hb d_Mod_call_37 rfl (lv_at hl 2 rfl) ?_
      refine lv_iconst (v := 1) hx hb d_Mod_call_38 (by decide) ?_
      obtain ⟨p39, hp39, h⟩ := of_bind h
      refine rb_callV smok C (c_Mod_raise hp39) cw_Mod_176 ⟨Nat.le_of_ble_eq_true rfl, Nat.le_of_ble_eq_true rfl⟩ ⟨rfl, rfl⟩ (q0 := 0) (ci := 4) rfl rfl hI ⟨Nat.zero_le _, Nat.zero_le _⟩ (As := [.int 1]) rfl hl.1 (rest := []) (Nat.le_of_ble_eq_true rfl) rfl d_Mod_call_39 (fun H locs hI => ?_)
      replace h := Option.some.inj h
      subst h
      exact rb_retV C hr hI d_Mod_call_42
  · replace h := of_pos hc h
    replace h := Option.some.inj h
    subst h
    exact rb_retV C hr hI d_Mod_call_19
theorem d_Mod_leave_0 : decode b_Mod_leave 0 = .ok (.iconst 4, 1) := by decide +kernel
theorem d_Mod_leave_1 : decode b_Mod_leave 1 = .ok (.aload_n 0, 1) := by decide +kernel
theorem d_Mod_leave_2 : decode b_Mod_leave 2 = .ok (.getfield 120, 3) := by decide +kernel
theorem d_Mod_leave_5 : decode b_Mod_leave 5 = .ok (.imul, 1) := by decide +kernel
theorem d_Mod_leave_6 : decode b_Mod_leave 6 = .ok (.istore_n 3, 1) := by decide +kernel
theorem d_Mod_leave_7 : decode b_Mod_leave 7 = .ok (.aload_n 0, 1) := by decide +kernel
theorem d_Mod_leave_8 : decode b_Mod_leave 8 = .ok (.iload_n 3, 1) := by decide +kernel
theorem d_Mod_leave_9 : decode b_Mod_leave 9 = .ok (.iload_n 1, 1) := by decide +kernel
theorem d_Mod_leave_10 : decode b_Mod_leave 10 = .ok (.iadd, 1) := by decide +kernel
theorem d_Mod_leave_11 : decode b_Mod_leave 11 = .ok (.invokevirtual 114, 3) := by decide +kernel
theorem d_Mod_leave_14 : decode b_Mod_leave 14 = .ok (.ifCond .ne 4, 3) := by decide +kernel
theorem d_Mod_leave_17 : decode b_Mod_leave 17 = .ok (.return_, 1) := by decide +kernel
theorem d_Mod_leave_18 : decode b_Mod_leave 18 = .ok (.aload_n 0, 1) := by decide +kernel
theorem d_Mod_leave_19 : decode b_Mod_leave 19 = .ok (.getfield 37, 3) := by decide +kernel
theorem d_Mod_leave_22 : decode b_Mod_leave 22 = .ok (.iload_n 3, 1) := by decide +kernel
theorem d_Mod_leave_23 : decode b_Mod_leave 23 = .ok (.iconst 3, 1) := by decide +kernel
theorem d_Mod_leave_24 : decode b_Mod_leave 24 = .ok (.iadd, 1) := by decide +kernel
theorem d_Mod_leave_25 : decode b_Mod_leave 25 = .ok (.iaload, 1) := by decide +kernel
theorem d_Mod_leave_26 : decode b_Mod_leave 26 = .ok (.iconst (-1), 1) := by decide +kernel
theorem d_Mod_leave_27 : decode b_Mod_leave 27 = .ok (.if_icmp .ne 21, 3) := by decide +kernel
theorem d_Mod_leave_30 : decode b_Mod_leave 30 = .ok (.aload_n 0, 1) := by decide +kernel
theorem d_Mod_leave_31 : decode b_Mod_leave 31 = .ok (.iconst 1, 1) := by decide +kernel
theorem d_Mod_leave_32 : decode b_Mod_leave 32 = .ok (.putfield 53, 3) := by decide +kernel
theorem d_Mod_leave_35 : decode b_Mod_leave 35 = .ok (.aload_n 0, 1) := by decide +kernel
theorem d_Mod_leave_36 : decode b_Mod_leave 36 = .ok (.aload_n 0, 1) := by decide +kernel
theorem d_Mod_leave_37 : decode b_Mod_leave 37 = .ok (.getfield 40, 3) := by decide +kernel
theorem d_Mod_leave_40 : decode b_Mod_leave 40 = .ok (.iload_n 3, 1) := by decide +kernel
theorem d_Mod_leave_41 : decode b_Mod_leave 41 = .ok (.iload_n 2, 1) := by decide +kernel
theorem d_Mod_leave_42 : decode b_Mod_leave 42 = .ok (.iadd, 1) := by decide +kernel
theorem d_Mod_leave_43 : decode b_Mod_leave 43 = .ok (.iaload, 1) := by decide +kernel
theorem d_Mod_leave_44 : decode b_Mod_leave 44 = .ok (.putfield 146, 3) := by decide +kernel
theorem d_Mod_leave_47 : decode b_Mod_leave 47 = .ok (.return_, 1) := by decide +kernel
theorem d_Mod_leave_48 : decode b_Mod_leave 48 = .ok (.aload_n 0, 1) := by decide +kernel
theorem d_Mod_leave_49 : decode b_Mod_leave 49 = .ok (.iload_n 3, 1) := by decide +kernel
theorem d_Mod_leave_50 : decode b_Mod_leave 50 = .ok (.iconst 3, 1) := by decide +kernel
theorem d_Mod_leave_51 : decode b_Mod_leave 51 = .ok (.iadd, 1) := by decide +kernel
theorem d_Mod_leave_52 : decode b_Mod_leave 52 = .ok (.invokevirtual 114, 3) := by decide +kernel
theorem d_Mod_leave_55 : decode b_Mod_leave 55 = .ok (.ifCond .ne 4, 3) := by decide +kernel
theorem d_Mod_leave_58 : decode b_Mod_leave 58 = .ok (.return_, 1) := by decide +kernel
theorem d_Mod_leave_59 : decode b_Mod_leave 59 = .ok (.iconst 4, 1) := by decide +kernel
theorem d_Mod_leave_60 : decode b_Mod_leave 60 = .ok (.aload_n 0, 1) := by decide +kernel
theorem d_Mod_leave_61 : decode b_Mod_leave 61 = .ok (.getfield 37, 3) := by decide +kernel
theorem d_Mod_leave_64 : decode b_Mod_leave 64 = .ok (.iload_n 3, 1) := by decide +kernel
theorem d_Mod_leave_65 : decode b_Mod_leave 65 = .ok (.iconst 3, 1) := by decide +kernel
theorem d_Mod_leave_66 : decode b_Mod_leave 66 = .ok (.iadd, 1) := by decide +kernel
theorem d_Mod_leave_67 : decode b_Mod_leave 67 = .ok (.iaload, 1) := by decide +kernel
theorem d_Mod_leave_68 : decode b_Mod_leave 68 = .ok (.imul, 1) := by decide +kernel
theorem d_Mod_leave_69 : decode b_Mod_leave 69 = .ok (.istore 4, 2) := by decide +kernel
theorem d_Mod_leave_71 : decode b_Mod_leave 71 = .ok (.aload_n 0, 1) := by decide +kernel
theorem d_Mod_leave_72 : decode b_Mod_leave 72 = .ok (.getfield 37, 3) := by decide +kernel
theorem d_Mod_leave_75 : decode b_Mod_leave 75 = .ok (.iload 4, 2) := by decide +kernel
theorem d_Mod_leave_77 : decode b_Mod_leave 77 = .ok (.iconst 2, 1) := by decide +kernel
theorem d_Mod_leave_78 : decode b_Mod_leave 78 = .ok (.iadd, 1) := by decide +kernel
theorem d_Mod_leave_79 : decode b_Mod_leave 79 = .ok (.aload_n 0, 1) := by decide +kernel
theorem d_Mod_leave_80 : decode b_Mod_leave 80 = .ok (.getfield 37, 3) := by decide +kernel
theorem d_Mod_leave_83 : decode b_Mod_leave 83 = .ok (.iload_n 3, 1) := by decide +kernel
theorem d_Mod_leave_84 : decode b_Mod_leave 84 = .ok (.iload_n 1, 1) := by decide +kernel
theorem d_Mod_leave_85 : decode b_Mod_leave 85 = .ok (.iadd, 1) := by decide +kernel
theorem d_Mod_leave_86 : decode b_Mod_leave 86 = .ok (.iaload, 1) := by decide +kernel
theorem d_Mod_leave_87 : decode b_Mod_leave 87 = .ok (.iastore, 1) := by decide +kernel
theorem d_Mod_leave_88 : decode b_Mod_leave 88 = .ok (.aload_n 0, 1) := by decide +kernel
theorem d_Mod_leave_89 : decode b_Mod_leave 89 = .ok (.getfield 40, 3) := by decide +kernel
theorem d_Mod_leave_92 : decode b_Mod_leave 92 = .ok (.iload 4, 2) := by decide +kernel
theorem d_Mod_leave_94 : decode b_Mod_leave 94 = .ok (.iconst 2, 1) := by decide +kernel
theorem d_Mod_leave_95 : decode b_Mod_leave 95 = .ok (.iadd, 1) := by decide +kernel
theorem d_Mod_leave_96 : decode b_Mod_leave 96 = .ok (.aload_n 0, 1) := by decide +kernel
theorem d_Mod_leave_97 : decode b_Mod_leave 97 = .ok (.getfield 40, 3) := by decide +kernel
theorem d_Mod_leave_100 : decode b_Mod_leave 100 = .ok (.iload_n 3, 1) := by decide +kernel
theorem d_Mod_leave_101 : decode b_Mod_leave 101 = .ok (.iload_n 2, 1) := by decide +kernel
theorem d_Mod_leave_102 : decode b_Mod_leave 102 = .ok (.iadd, 1) := by decide +kernel
theorem d_Mod_leave_103 : decode b_Mod_leave 103 = .ok (.iaload, 1) := by decide +kernel
theorem d_Mod_leave_104 : decode b_Mod_leave 104 = .ok (.iastore, 1) := by decide +kernel
theorem d_Mod_leave_105 : decode b_Mod_leave 105 = .ok (.aload_n 0, 1) := by decide +kernel
theorem d_Mod_leave_106 : decode b_Mod_leave 106 = .ok (.iload 4, 2) := by decide +kernel
theorem d_Mod_leave_108 : decode b_Mod_leave 108 = .ok (.iconst 4, 1) := by decide +kernel
theorem d_Mod_leave_109 : decode b_Mod_leave 109 = .ok (.idiv, 1) := by decide +kernel
theorem d_Mod_leave_110 : decode b_Mod_leave 110 = .ok (.putfield 120, 3) := by decide +kernel
theorem d_Mod_leave_113 : decode b_Mod_leave 113 = .ok (.return_, 1) := by decide +kernel
abbrev rm_Mod_leave : Room := { frames := 3, cells := 0, slots := 0, locals := 63 }
set_option maxHeartbeats 4000000 in
set_option maxRecDepth 100000 in
theorem c_Mod_leave {l : Launch} {dC : Nat → ClassId} {dI : Nat → Nat → Nat} {a : Nat → Nat} {cI cZ : ClassId} {σ : St} {x1 x2 : Int32} {q : St} (h : fMod_leave σ x1 x2 = some q) : CV l (dC, dI) clA (tyM cI cZ) SXm (wM a cI cZ σ) (wM a cI cZ q) y_Mod_leave b_Mod_leave 5 none rm_Mod_leave [.ref (a 0), .int x1, .int x2] := by
  refine CV_of (by decide) (Nat.le_of_ble_eq_true rfl) ?_
  intro pr e s m below meth c A ls C hr hl hI
  have hx := C.1
  have hb := C.2.1
  have hl : lv_has ls 5 [(0, .ref (a 0)), (1, .int x1), (2, .int x2)] := hl
  unfold fMod_leave at h
  refine lv_iconst (v := 4) hx hb d_Mod_leave_0 (by decide) ?_
  refine lv_aload_n hx hb d_Mod_leave_1 rfl (lv_at hl 0 rfl) ?_
  refine gf_Mod_120 C hI (v := σ.1 9) rfl d_Mod_leave_2 ?_
  refine lv_imul hx hb d_Mod_leave_5 ?_
  refine lv_istore_n (lv' := [(3, .int ((4 : Int32) * (σ.1 9))), (0, .ref (a 0)), (1, .int x1), (2, .int x2)]) hx hb d_Mod_leave_6 rfl hl (by decide) rfl (fun ls hl => ?_)
  refine lv_aload_n hx hb d_Mod_leave_7 rfl (lv_at hl 1 rfl) ?_
  refine lv_iload_n hx hb d_Mod_leave_8 rfl (lv_at hl 0 rfl) ?_
  refine lv_iload_n hx hb d_Mod_leave_9 rfl (lv_at hl 2 rfl) ?_
  refine lv_iadd hx hb d_Mod_leave_10 ?_
  obtain ⟨p11, hp11, h⟩ := of_bind h
  refine rb_callI smok C (c_Mod_read hp11) cw_Mod_114 ⟨Nat.le_of_ble_eq_true rfl, Nat.le_of_ble_eq_true rfl⟩ ⟨rfl, rfl⟩ (q0 := 0) (ci := 4) rfl rfl hI ⟨Nat.zero_le _, Nat.zero_le _⟩ (As := [.int (((4 : Int32) * (σ.1 9)) + x1)]) rfl hl.1 (rest := []) (Nat.le_of_ble_eq_true rfl) rfl d_Mod_leave_11 (fun H locs hI => ?_)
  refine lv_if_ne (tgt := 18) hx hb d_Mod_leave_14 (by decide) (fun hc => ?_) (fun hc => ?_)
  · replace h := of_neg hc h
    refine lv_aload_n hx hb d_Mod_leave_18 rfl (lv_at hl 1 rfl) ?_
    refine gf_Mod_37 C hI d_Mod_leave_19 ?_
    refine lv_iload_n hx hb d_Mod_leave_22 rfl (lv_at hl 0 rfl) ?_
    refine lv_iconst (v := 3) hx hb d_Mod_leave_23 (by decide) ?_
    refine lv_iadd hx hb d_Mod_leave_24 ?_
    obtain ⟨hg25, h⟩ := of_guard h
    refine al_M_9 C hI (f := p11.2.2 9) rfl hg25 d_Mod_leave_25 ?_
    refine lv_iconst (v := (-1)) hx hb d_Mod_leave_26 (by decide) ?_
    refine lv_icmp_ne (tgt := 48) hx hb d_Mod_leave_27 (by decide) (fun hc => ?_) (fun hc => ?_)
    · replace h := of_neg hc h
      refine lv_aload_n hx hb d_Mod_leave_48 rfl (lv_at hl 1 rfl) ?_
      refine lv_iload_n hx hb d_Mod_leave_49 rfl (lv_at hl 0 rfl) ?_
      refine lv_iconst (v := 3) hx hb d_Mod_leave_50 (by decide) ?_
      refine lv_iadd hx hb d_Mod_leave_51 ?_
      obtain ⟨p52, hp52, h⟩ := of_bind h
      refine rb_callI smok C (c_Mod_read hp52) cw_Mod_114 ⟨Nat.le_of_ble_eq_true rfl, Nat.le_of_ble_eq_true rfl⟩ ⟨rfl, rfl⟩ (q0 := 0) (ci := 4) rfl rfl hI ⟨Nat.zero_le _, Nat.zero_le _⟩ (As := [.int (((4 : Int32) * (σ.1 9)) + 3)]) rfl hl.1 (rest := []) (Nat.le_of_ble_eq_true rfl) rfl d_Mod_leave_52 (fun H locs hI => ?_)
      refine lv_if_ne (tgt := 59) hx hb d_Mod_leave_55 (by decide) (fun hc => ?_) (fun hc => ?_)
      · replace h := of_neg hc h
        refine lv_iconst (v := 4) hx hb d_Mod_leave_59 (by decide) ?_
        refine lv_aload_n hx hb d_Mod_leave_60 rfl (lv_at hl 1 rfl) ?_
        refine gf_Mod_37 C hI d_Mod_leave_61 ?_
        refine lv_iload_n hx hb d_Mod_leave_64 rfl (lv_at hl 0 rfl) ?_
        refine lv_iconst (v := 3) hx hb d_Mod_leave_65 (by decide) ?_
        refine lv_iadd hx hb d_Mod_leave_66 ?_
        obtain ⟨hg67, h⟩ := of_guard h
        refine al_M_9 C hI (f := p52.2.2 9) rfl hg67 d_Mod_leave_67 ?_
        refine lv_imul hx hb d_Mod_leave_68 ?_
        refine lv_istore (lv' := [(4, .int ((4 : Int32) * ((p52.2.2 9) (((4 : Int32) * (σ.1 9)) + 3).toNatClampNeg))), (3, .int ((4 : Int32) * (σ.1 9))), (0, .ref (a 0)), (1, .int x1), (2, .int x2)]) hx hb d_Mod_leave_69 hl (by decide) rfl (fun ls hl => ?_)
        refine lv_aload_n hx hb d_Mod_leave_71 rfl (lv_at hl 2 rfl) ?_
        refine gf_Mod_37 C hI d_Mod_leave_72 ?_
        refine lv_iload hx hb d_Mod_leave_75 (lv_at hl 0 rfl) ?_
        refine lv_iconst (v := 2) hx hb d_Mod_leave_77 (by decide) ?_
        refine lv_iadd hx hb d_Mod_leave_78 ?_
        refine lv_aload_n hx hb d_Mod_leave_79 rfl (lv_at hl 2 rfl) ?_
        refine gf_Mod_37 C hI d_Mod_leave_80 ?_
        refine lv_iload_n hx hb d_Mod_leave_83 rfl (lv_at hl 1 rfl) ?_
        refine lv_iload_n hx hb d_Mod_leave_84 rfl (lv_at hl 3 rfl) ?_
        refine lv_iadd hx hb d_Mod_leave_85 ?_
        obtain ⟨hg86, h⟩ := of_guard h
        refine al_M_9 C hI (f := p52.2.2 9) rfl hg86 d_Mod_leave_86 ?_
        obtain ⟨hg87, h⟩ := of_guard h
        refine as_M_9 C hI (σ' := (p52.2.1, va_up p52.2.2 9 (upd (p52.2.2 9) (((4 : Int32) * ((p52.2.2 9) (((4 : Int32) * (σ.1 9)) + 3).toNatClampNeg)) + 2).toNatClampNeg ((p52.2.2 9) (((4 : Int32) * (σ.1 9)) + x1).toNatClampNeg)))) rfl hg87 d_Mod_leave_87 (fun H locs hI => ?_)
        refine lv_aload_n hx hb d_Mod_leave_88 rfl (lv_at hl 2 rfl) ?_
        refine gf_Mod_40 C hI d_Mod_leave_89 ?_
        refine lv_iload hx hb d_Mod_leave_92 (lv_at hl 0 rfl) ?_
        refine lv_iconst (v := 2) hx hb d_Mod_leave_94 (by decide) ?_
        refine lv_iadd hx hb d_Mod_leave_95 ?_
        refine lv_aload_n hx hb d_Mod_leave_96 rfl (lv_at hl 2 rfl) ?_
        refine gf_Mod_40 C hI d_Mod_leave_97 ?_
        refine lv_iload_n hx hb d_Mod_leave_100 rfl (lv_at hl 1 rfl) ?_
        refine lv_iload_n hx hb d_Mod_leave_101 rfl (lv_at hl 4 rfl) ?_
        refine lv_iadd hx hb d_Mod_leave_102 ?_
        obtain ⟨hg103, h⟩ := of_guard h
        refine al_M_10 C hI (f := p52.2.2 10) rfl hg103 d_Mod_leave_103 ?_
        obtain ⟨hg104, h⟩ := of_guard h
        refine as_M_10 C hI (σ' := (p52.2.1, va_up (va_up p52.2.2 9 (upd (p52.2.2 9) (((4 : Int32) * ((p52.2.2 9) (((4 : Int32) * (σ.1 9)) + 3).toNatClampNeg)) + 2).toNatClampNeg ((p52.2.2 9) (((4 : Int32) * (σ.1 9)) + x1).toNatClampNeg))) 10 (upd (p52.2.2 10) (((4 : Int32) * ((p52.2.2 9) (((4 : Int32) * (σ.1 9)) + 3).toNatClampNeg)) + 2).toNatClampNeg ((p52.2.2 10) (((4 : Int32) * (σ.1 9)) + x2).toNatClampNeg)))) rfl hg104 d_Mod_leave_104 (fun H locs hI => ?_)
        refine lv_aload_n hx hb d_Mod_leave_105 rfl (lv_at hl 2 rfl) ?_
        refine lv_iload hx hb d_Mod_leave_106 (lv_at hl 0 rfl) ?_
        refine lv_iconst (v := 4) hx hb d_Mod_leave_108 (by decide) ?_
        refine lv_idiv hx hb d_Mod_leave_109 (by decide) ?_
        refine pf_Mod_120 C hI (σ' := (upd p52.2.1 9 (((4 : Int32) * ((p52.2.2 9) (((4 : Int32) * (σ.1 9)) + 3).toNatClampNeg)) / 4), va_up (va_up p52.2.2 9 (upd (p52.2.2 9) (((4 : Int32) * ((p52.2.2 9) (((4 : Int32) * (σ.1 9)) + 3).toNatClampNeg)) + 2).toNatClampNeg ((p52.2.2 9) (((4 : Int32) * (σ.1 9)) + x1).toNatClampNeg))) 10 (upd (p52.2.2 10) (((4 : Int32) * ((p52.2.2 9) (((4 : Int32) * (σ.1 9)) + 3).toNatClampNeg)) + 2).toNatClampNeg ((p52.2.2 10) (((4 : Int32) * (σ.1 9)) + x2).toNatClampNeg)))) rfl d_Mod_leave_110 (fun H locs hI => ?_)
        replace h := Option.some.inj h
        subst h
        exact rb_retV C hr hI d_Mod_leave_113
      · replace h := of_pos hc h
        replace h := Option.some.inj h
        subst h
        exact rb_retV C hr hI d_Mod_leave_58
    · replace h := of_pos hc h
      refine lv_aload_n hx hb d_Mod_leave_30 rfl (lv_at hl 1 rfl) ?_
      refine lv_iconst (v := 1) hx hb d_Mod_leave_31 (by decide) ?_
      refine pf_Mod_53 C hI (σ' := (upd p11.2.1 12 1, p11.2.2)) rfl d_Mod_leave_32 (fun H locs hI => ?_)
      refine lv_aload_n hx hb d_Mod_leave_35 rfl (lv_at hl 1 rfl) ?_
      refine lv_aload_n hx hb d_Mod_leave_36 rfl (lv_at hl 1 rfl) ?_
      refine gf_Mod_40 C hI d_Mod_leave_37 ?_
      refine lv_iload_n hx hb d_Mod_leave_40 rfl (lv_at hl 0 rfl) ?_
      refine lv_iload_n hx hb d_Mod_leave_41 rfl (lv_at hl 3 rfl) ?_
      refine lv_iadd hx hb d_Mod_leave_42 ?_
      obtain ⟨hg43, h⟩ := of_guard h
      refine al_M_10 C hI (f := p11.2.2 10) rfl hg43 d_Mod_leave_43 ?_
      refine pf_Mod_146 C hI (σ' := (upd (upd p11.2.1 12 1) 13 ((p11.2.2 10) (((4 : Int32) * (σ.1 9)) + x2).toNatClampNeg), p11.2.2)) rfl d_Mod_leave_44 (fun H locs hI => ?_)
      replace h := Option.some.inj h
      subst h
      exact rb_retV C hr hI d_Mod_leave_47
  · replace h := of_pos hc h
    replace h := Option.some.inj h
    subst h
    exact rb_retV C hr hI d_Mod_leave_17
theorem d_Mod_step_0 : decode b_Mod_step 0 = .ok (.aload_n 0, 1) := by decide +kernel
theorem d_Mod_step_1 : decode b_Mod_step 1 = .ok (.getfield 143, 3) := by decide +kernel
theorem d_Mod_step_4 : decode b_Mod_step 4 = .ok (.ifCond .eq 8, 3) := by decide +kernel
theorem d_Mod_step_7 : decode b_Mod_step 7 = .ok (.aload_n 0, 1) := by decide +kernel
theorem d_Mod_step_8 : decode b_Mod_step 8 = .ok (.invokevirtual 155, 3) := by decide +kernel
theorem d_Mod_step_11 : decode b_Mod_step 11 = .ok (.return_, 1) := by decide +kernel
theorem d_Mod_step_12 : decode b_Mod_step 12 = .ok (.bipush 48, 2) := by decide +kernel
theorem d_Mod_step_14 : decode b_Mod_step 14 = .ok (.aload_n 0, 1) := by decide +kernel
theorem d_Mod_step_15 : decode b_Mod_step 15 = .ok (.getfield 34, 3) := by decide +kernel
theorem d_Mod_step_18 : decode b_Mod_step 18 = .ok (.aload_n 0, 1) := by decide +kernel
theorem d_Mod_step_19 : decode b_Mod_step 19 = .ok (.getfield 120, 3) := by decide +kernel
theorem d_Mod_step_22 : decode b_Mod_step 22 = .ok (.iaload, 1) := by decide +kernel
theorem d_Mod_step_23 : decode b_Mod_step 23 = .ok (.imul, 1) := by decide +kernel
theorem d_Mod_step_24 : decode b_Mod_step 24 = .ok (.iconst 4, 1) := by decide +kernel
theorem d_Mod_step_25 : decode b_Mod_step 25 = .ok (.aload_n 0, 1) := by decide +kernel
theorem d_Mod_step_26 : decode b_Mod_step 26 = .ok (.getfield 40, 3) := by decide +kernel
theorem d_Mod_step_29 : decode b_Mod_step 29 = .ok (.iconst 4, 1) := by decide +kernel
theorem d_Mod_step_30 : decode b_Mod_step 30 = .ok (.aload_n 0, 1) := by decide +kernel
theorem d_Mod_step_31 : decode b_Mod_step 31 = .ok (.getfield 120, 3) := by decide +kernel
theorem d_Mod_step_34 : decode b_Mod_step 34 = .ok (.imul, 1) := by decide +kernel
theorem d_Mod_step_35 : decode b_Mod_step 35 = .ok (.iconst 3, 1) := by decide +kernel
theorem d_Mod_step_36 : decode b_Mod_step 36 = .ok (.iadd, 1) := by decide +kernel
theorem d_Mod_step_37 : decode b_Mod_step 37 = .ok (.iaload, 1) := by decide +kernel
theorem d_Mod_step_38 : decode b_Mod_step 38 = .ok (.imul, 1) := by decide +kernel
theorem d_Mod_step_39 : decode b_Mod_step 39 = .ok (.iadd, 1) := by decide +kernel
theorem d_Mod_step_40 : decode b_Mod_step 40 = .ok (.istore_n 1, 1) := by decide +kernel
theorem d_Mod_step_41 : decode b_Mod_step 41 = .ok (.aload_n 0, 1) := by decide +kernel
theorem d_Mod_step_42 : decode b_Mod_step 42 = .ok (.getfield 40, 3) := by decide +kernel
theorem d_Mod_step_45 : decode b_Mod_step 45 = .ok (.iconst 4, 1) := by decide +kernel
theorem d_Mod_step_46 : decode b_Mod_step 46 = .ok (.aload_n 0, 1) := by decide +kernel
theorem d_Mod_step_47 : decode b_Mod_step 47 = .ok (.getfield 120, 3) := by decide +kernel
theorem d_Mod_step_50 : decode b_Mod_step 50 = .ok (.imul, 1) := by decide +kernel
theorem d_Mod_step_51 : decode b_Mod_step 51 = .ok (.iconst 3, 1) := by decide +kernel
theorem d_Mod_step_52 : decode b_Mod_step 52 = .ok (.iadd, 1) := by decide +kernel
theorem d_Mod_step_53 : decode b_Mod_step 53 = .ok (.dup2, 1) := by decide +kernel
theorem d_Mod_step_54 : decode b_Mod_step 54 = .ok (.iaload, 1) := by decide +kernel
theorem d_Mod_step_55 : decode b_Mod_step 55 = .ok (.iconst 1, 1) := by decide +kernel
theorem d_Mod_step_56 : decode b_Mod_step 56 = .ok (.iadd, 1) := by decide +kernel
theorem d_Mod_step_57 : decode b_Mod_step 57 = .ok (.iastore, 1) := by decide +kernel
theorem d_Mod_step_58 : decode b_Mod_step 58 = .ok (.aload_n 0, 1) := by decide +kernel
theorem d_Mod_step_59 : decode b_Mod_step 59 = .ok (.getfield 25, 3) := by decide +kernel
theorem d_Mod_step_62 : decode b_Mod_step 62 = .ok (.iload_n 1, 1) := by decide +kernel
theorem d_Mod_step_63 : decode b_Mod_step 63 = .ok (.iaload, 1) := by decide +kernel
theorem d_Mod_step_64 : decode b_Mod_step 64 = .ok (.istore_n 2, 1) := by decide +kernel
theorem d_Mod_step_65 : decode b_Mod_step 65 = .ok (.aload_n 0, 1) := by decide +kernel
theorem d_Mod_step_66 : decode b_Mod_step 66 = .ok (.getfield 25, 3) := by decide +kernel
theorem d_Mod_step_69 : decode b_Mod_step 69 = .ok (.iload_n 1, 1) := by decide +kernel
theorem d_Mod_step_70 : decode b_Mod_step 70 = .ok (.iconst 1, 1) := by decide +kernel
theorem d_Mod_step_71 : decode b_Mod_step 71 = .ok (.iadd, 1) := by decide +kernel
theorem d_Mod_step_72 : decode b_Mod_step 72 = .ok (.iaload, 1) := by decide +kernel
theorem d_Mod_step_73 : decode b_Mod_step 73 = .ok (.istore_n 3, 1) := by decide +kernel
theorem d_Mod_step_74 : decode b_Mod_step 74 = .ok (.aload_n 0, 1) := by decide +kernel
theorem d_Mod_step_75 : decode b_Mod_step 75 = .ok (.getfield 25, 3) := by decide +kernel
theorem d_Mod_step_78 : decode b_Mod_step 78 = .ok (.iload_n 1, 1) := by decide +kernel
theorem d_Mod_step_79 : decode b_Mod_step 79 = .ok (.iconst 2, 1) := by decide +kernel
theorem d_Mod_step_80 : decode b_Mod_step 80 = .ok (.iadd, 1) := by decide +kernel
theorem d_Mod_step_81 : decode b_Mod_step 81 = .ok (.iaload, 1) := by decide +kernel
theorem d_Mod_step_82 : decode b_Mod_step 82 = .ok (.istore 4, 2) := by decide +kernel
theorem d_Mod_step_84 : decode b_Mod_step 84 = .ok (.aload_n 0, 1) := by decide +kernel
theorem d_Mod_step_85 : decode b_Mod_step 85 = .ok (.getfield 25, 3) := by decide +kernel
theorem d_Mod_step_88 : decode b_Mod_step 88 = .ok (.iload_n 1, 1) := by decide +kernel
theorem d_Mod_step_89 : decode b_Mod_step 89 = .ok (.iconst 3, 1) := by decide +kernel
theorem d_Mod_step_90 : decode b_Mod_step 90 = .ok (.iadd, 1) := by decide +kernel
theorem d_Mod_step_91 : decode b_Mod_step 91 = .ok (.iaload, 1) := by decide +kernel
theorem d_Mod_step_92 : decode b_Mod_step 92 = .ok (.istore 5, 2) := by decide +kernel
theorem d_Mod_step_94 : decode b_Mod_step 94 = .ok (.iload_n 2, 1) := by decide +kernel
theorem d_Mod_step_95 : decode b_Mod_step 95 = .ok (.iconst 5, 1) := by decide +kernel
theorem d_Mod_step_96 : decode b_Mod_step 96 = .ok (.if_icmp .lt 22, 3) := by decide +kernel
theorem d_Mod_step_99 : decode b_Mod_step 99 = .ok (.iload_n 2, 1) := by decide +kernel
theorem d_Mod_step_100 : decode b_Mod_step 100 = .ok (.bipush 8, 2) := by decide +kernel
theorem d_Mod_step_102 : decode b_Mod_step 102 = .ok (.if_icmp .gt 16, 3) := by decide +kernel
theorem d_Mod_step_105 : decode b_Mod_step 105 = .ok (.aload_n 0, 1) := by decide +kernel
theorem d_Mod_step_106 : decode b_Mod_step 106 = .ok (.iload_n 2, 1) := by decide +kernel
theorem d_Mod_step_107 : decode b_Mod_step 107 = .ok (.iload_n 3, 1) := by decide +kernel
theorem d_Mod_step_108 : decode b_Mod_step 108 = .ok (.iload 4, 2) := by decide +kernel
theorem d_Mod_step_110 : decode b_Mod_step 110 = .ok (.iload 5, 2) := by decide +kernel
theorem d_Mod_step_112 : decode b_Mod_step 112 = .ok (.invokevirtual 158, 3) := by decide +kernel
theorem d_Mod_step_115 : decode b_Mod_step 115 = .ok (.goto 47, 3) := by decide +kernel
theorem d_Mod_step_118 : decode b_Mod_step 118 = .ok (.iload_n 2, 1) := by decide +kernel
theorem d_Mod_step_119 : decode b_Mod_step 119 = .ok (.bipush 12, 2) := by decide +kernel
theorem d_Mod_step_121 : decode b_Mod_step 121 = .ok (.if_icmp .ne 15, 3) := by decide +kernel
theorem d_Mod_step_124 : decode b_Mod_step 124 = .ok (.aload_n 0, 1) := by decide +kernel
theorem d_Mod_step_125 : decode b_Mod_step 125 = .ok (.iload_n 3, 1) := by decide +kernel
theorem d_Mod_step_126 : decode b_Mod_step 126 = .ok (.iload 4, 2) := by decide +kernel
theorem d_Mod_step_128 : decode b_Mod_step 128 = .ok (.iload 5, 2) := by decide +kernel
theorem d_Mod_step_130 : decode b_Mod_step 130 = .ok (.invokevirtual 162, 3) := by decide +kernel
theorem d_Mod_step_133 : decode b_Mod_step 133 = .ok (.goto 29, 3) := by decide +kernel
theorem d_Mod_step_136 : decode b_Mod_step 136 = .ok (.iload_n 2, 1) := by decide +kernel
theorem d_Mod_step_137 : decode b_Mod_step 137 = .ok (.bipush 13, 2) := by decide +kernel
theorem d_Mod_step_139 : decode b_Mod_step 139 = .ok (.if_icmp .ne 13, 3) := by decide +kernel
theorem d_Mod_step_142 : decode b_Mod_step 142 = .ok (.aload_n 0, 1) := by decide +kernel
theorem d_Mod_step_143 : decode b_Mod_step 143 = .ok (.iload_n 3, 1) := by decide +kernel
theorem d_Mod_step_144 : decode b_Mod_step 144 = .ok (.iload 4, 2) := by decide +kernel
theorem d_Mod_step_146 : decode b_Mod_step 146 = .ok (.invokevirtual 166, 3) := by decide +kernel
theorem d_Mod_step_149 : decode b_Mod_step 149 = .ok (.goto 13, 3) := by decide +kernel
theorem d_Mod_step_152 : decode b_Mod_step 152 = .ok (.aload_n 0, 1) := by decide +kernel
theorem d_Mod_step_153 : decode b_Mod_step 153 = .ok (.iload_n 2, 1) := by decide +kernel
theorem d_Mod_step_154 : decode b_Mod_step 154 = .ok (.iload_n 3, 1) := by decide +kernel
theorem d_Mod_step_155 : decode b_Mod_step 155 = .ok (.iload 4, 2) := by decide +kernel
theorem d_Mod_step_157 : decode b_Mod_step 157 = .ok (.iload 5, 2) := by decide +kernel
theorem d_Mod_step_159 : decode b_Mod_step 159 = .ok (.invokevirtual 170, 3) := by decide +kernel
theorem d_Mod_step_162 : decode b_Mod_step 162 = .ok (.return_, 1) := by decide +kernel
abbrev rm_Mod_step : Room := { frames := 6, cells := 0, slots := 0, locals := 136 }
set_option maxHeartbeats 4000000 in
set_option maxRecDepth 100000 in
theorem j_Mod_step_J118 {l : Launch} {dC : Nat → ClassId} {dI : Nat → Nat → Nat} {a : Nat → Nat} {cI cZ : ClassId} {pr : Program} {e : Env} {s : State} {m : MethodId} {args : Array Value} {below : List Frame} {meth : Method} {c : Code} {A : Nat → Prop} {ls : Array Slot} {H : Heap} {locs : List Loc} {σ : St} {x2 x3 x4 x5 : Int32} {q : St} (C : Cx (dC, dI) clA (tyM cI cZ) SXm pr s m args meth c b_Mod_step 6 y_Mod_step.cls A) (hr : meth.sig.returnType = none) (h : fMod_step_J118 σ x2 x3 x4 x5 = some q) (hl : lv_has ls 6 [(0, .ref (a 0)), (2, .int x2), (3, .int x3), (4, .int x4), (5, .int x5)]) (hI : Wi (dC, dI) clA (wM a cI cZ σ) s A H locs)  : W pr l e rm_Mod_step s m args below meth c H locs 0 0 (MQ below (rb_Qv (dC, dI) clA (tyM cI cZ) (wM a cI cZ q) A) args s 0 0 A) (F0 m 118 ls []) := by
  have hx := C.1
  have hb := C.2.1
  unfold fMod_step_J118 at h
  refine lv_iload_n hx hb d_Mod_step_118 rfl (lv_at hl 1 rfl) ?_
  refine lv_bipush (v := 12) hx hb d_Mod_step_119 (by decide) ?_
  refine lv_icmp_ne (tgt := 136) hx hb d_Mod_step_121 (by decide) (fun hc => ?_) (fun hc => ?_)
  · replace h := of_neg hc h
    refine lv_iload_n hx hb d_Mod_step_136 rfl (lv_at hl 1 rfl) ?_
    refine lv_bipush (v := 13) hx hb d_Mod_step_137 (by decide) ?_
    refine lv_icmp_ne (tgt := 152) hx hb d_Mod_step_139 (by decide) (fun hc => ?_) (fun hc => ?_)
    · replace h := of_neg hc h
      refine lv_aload_n hx hb d_Mod_step_152 rfl (lv_at hl 0 rfl) ?_
      refine lv_iload_n hx hb d_Mod_step_153 rfl (lv_at hl 1 rfl) ?_
      refine lv_iload_n hx hb d_Mod_step_154 rfl (lv_at hl 2 rfl) ?_
      refine lv_iload hx hb d_Mod_step_155 (lv_at hl 3 rfl) ?_
      refine lv_iload hx hb d_Mod_step_157 (lv_at hl 4 rfl) ?_
      obtain ⟨p159, hp159, h⟩ := of_bind h
      refine rb_callV smok C (c_Mod_plain hp159) cw_Mod_170 ⟨Nat.le_of_ble_eq_true rfl, Nat.le_of_ble_eq_true rfl⟩ ⟨rfl, rfl⟩ (q0 := 0) (ci := 4) rfl rfl hI ⟨Nat.zero_le _, Nat.zero_le _⟩ (As := [.int x2, .int x3, .int x4, .int x5]) rfl hl.1 (rest := []) (Nat.le_of_ble_eq_true rfl) rfl d_Mod_step_159 (fun H locs hI => ?_)
      replace h := Option.some.inj h
      subst h
      exact rb_retV C hr hI d_Mod_step_162
    · replace h := of_pos hc h
      refine lv_aload_n hx hb d_Mod_step_142 rfl (lv_at hl 0 rfl) ?_
      refine lv_iload_n hx hb d_Mod_step_143 rfl (lv_at hl 2 rfl) ?_
      refine lv_iload hx hb d_Mod_step_144 (lv_at hl 3 rfl) ?_
      obtain ⟨p146, hp146, h⟩ := of_bind h
      refine rb_callV smok C (c_Mod_leave hp146) cw_Mod_166 ⟨Nat.le_of_ble_eq_true rfl, Nat.le_of_ble_eq_true rfl⟩ ⟨rfl, rfl⟩ (q0 := 0) (ci := 4) rfl rfl hI ⟨Nat.zero_le _, Nat.zero_le _⟩ (As := [.int x3, .int x4]) rfl hl.1 (rest := []) (Nat.le_of_ble_eq_true rfl) rfl d_Mod_step_146 (fun H locs hI => ?_)
      refine lv_goto (tgt := 162) hx hb d_Mod_step_149 (by decide) ?_
      replace h := Option.some.inj h
      subst h
      exact rb_retV C hr hI d_Mod_step_162
  · replace h := of_pos hc h
    refine lv_aload_n hx hb d_Mod_step_124 rfl (lv_at hl 0 rfl) ?_
    refine lv_iload_n hx hb d_Mod_step_125 rfl (lv_at hl 2 rfl) ?_
    refine lv_iload hx hb d_Mod_step_126 (lv_at hl 3 rfl) ?_
    refine lv_iload hx hb d_Mod_step_128 (lv_at hl 4 rfl) ?_
    obtain ⟨p130, hp130, h⟩ := of_bind h
    refine rb_callV smok C (c_Mod_call hp130) cw_Mod_162 ⟨Nat.le_of_ble_eq_true rfl, Nat.le_of_ble_eq_true rfl⟩ ⟨rfl, rfl⟩ (q0 := 0) (ci := 4) rfl rfl hI ⟨Nat.zero_le _, Nat.zero_le _⟩ (As := [.int x3, .int x4, .int x5]) rfl hl.1 (rest := []) (Nat.le_of_ble_eq_true rfl) rfl d_Mod_step_130 (fun H locs hI => ?_)
    refine lv_goto (tgt := 162) hx hb d_Mod_step_133 (by decide) ?_
    replace h := Option.some.inj h
    subst h
    exact rb_retV C hr hI d_Mod_step_162
set_option maxHeartbeats 4000000 in
set_option maxRecDepth 100000 in
theorem c_Mod_step {l : Launch} {dC : Nat → ClassId} {dI : Nat → Nat → Nat} {a : Nat → Nat} {cI cZ : ClassId} {σ : St} {q : St} (h : fMod_step σ = some q) : CV l (dC, dI) clA (tyM cI cZ) SXm (wM a cI cZ σ) (wM a cI cZ q) y_Mod_step b_Mod_step 6 none rm_Mod_step [.ref (a 0)] := by
  refine CV_of (by decide) (Nat.le_of_ble_eq_true rfl) ?_
  intro pr e s m below meth c A ls C hr hl hI
  have hx := C.1
  have hb := C.2.1
  have hl : lv_has ls 6 [(0, .ref (a 0))] := hl
  unfold fMod_step at h
  refine lv_aload_n hx hb d_Mod_step_0 rfl (lv_at hl 0 rfl) ?_
  refine gf_Mod_143 C hI (v := σ.1 10) rfl d_Mod_step_1 ?_
  refine lv_if_eq (tgt := 12) hx hb d_Mod_step_4 (by decide) (fun hc => ?_) (fun hc => ?_)
  · replace h := of_pos hc h
    refine lv_bipush (v := 48) hx hb d_Mod_step_12 (by decide) ?_
    refine lv_aload_n hx hb d_Mod_step_14 rfl (lv_at hl 0 rfl) ?_
    refine gf_Mod_34 C hI d_Mod_step_15 ?_
    refine lv_aload_n hx hb d_Mod_step_18 rfl (lv_at hl 0 rfl) ?_
    refine gf_Mod_120 C hI (v := σ.1 9) rfl d_Mod_step_19 ?_
    obtain ⟨hg22, h⟩ := of_guard h
    refine al_M_8 C hI (f := σ.2 8) rfl hg22 d_Mod_step_22 ?_
    refine lv_imul hx hb d_Mod_step_23 ?_
    refine lv_iconst (v := 4) hx hb d_Mod_step_24 (by decide) ?_
    refine lv_aload_n hx hb d_Mod_step_25 rfl (lv_at hl 0 rfl) ?_
    refine gf_Mod_40 C hI d_Mod_step_26 ?_
    refine lv_iconst (v := 4) hx hb d_Mod_step_29 (by decide) ?_
    refine lv_aload_n hx hb d_Mod_step_30 rfl (lv_at hl 0 rfl) ?_
    refine gf_Mod_120 C hI (v := σ.1 9) rfl d_Mod_step_31 ?_
    refine lv_imul hx hb d_Mod_step_34 ?_
    refine lv_iconst (v := 3) hx hb d_Mod_step_35 (by decide) ?_
    refine lv_iadd hx hb d_Mod_step_36 ?_
    obtain ⟨hg37, h⟩ := of_guard h
    refine al_M_10 C hI (f := σ.2 10) rfl hg37 d_Mod_step_37 ?_
    refine lv_imul hx hb d_Mod_step_38 ?_
    refine lv_iadd hx hb d_Mod_step_39 ?_
    refine lv_istore_n (lv' := [(1, .int (((48 : Int32) * ((σ.2 8) (σ.1 9).toNatClampNeg)) + ((4 : Int32) * ((σ.2 10) (((4 : Int32) * (σ.1 9)) + 3).toNatClampNeg)))), (0, .ref (a 0))]) hx hb d_Mod_step_40 rfl hl (by decide) rfl (fun ls hl => ?_)
    refine lv_aload_n hx hb d_Mod_step_41 rfl (lv_at hl 1 rfl) ?_
    refine gf_Mod_40 C hI d_Mod_step_42 ?_
    refine lv_iconst (v := 4) hx hb d_Mod_step_45 (by decide) ?_
    refine lv_aload_n hx hb d_Mod_step_46 rfl (lv_at hl 1 rfl) ?_
    refine gf_Mod_120 C hI (v := σ.1 9) rfl d_Mod_step_47 ?_
    refine lv_imul hx hb d_Mod_step_50 ?_
    refine lv_iconst (v := 3) hx hb d_Mod_step_51 (by decide) ?_
    refine lv_iadd hx hb d_Mod_step_52 ?_
    refine lv_dup2_11 hx hb d_Mod_step_53 rfl rfl ?_
    obtain ⟨hg54, h⟩ := of_guard h
    refine al_M_10 C hI (f := σ.2 10) rfl hg54 d_Mod_step_54 ?_
    refine lv_iconst (v := 1) hx hb d_Mod_step_55 (by decide) ?_
    refine lv_iadd hx hb d_Mod_step_56 ?_
    obtain ⟨hg57, h⟩ := of_guard h
    refine as_M_10 C hI (σ' := (σ.1, va_up σ.2 10 (upd (σ.2 10) (((4 : Int32) * (σ.1 9)) + 3).toNatClampNeg (((σ.2 10) (((4 : Int32) * (σ.1 9)) + 3).toNatClampNeg) + 1)))) rfl hg57 d_Mod_step_57 (fun H locs hI => ?_)
    refine lv_aload_n hx hb d_Mod_step_58 rfl (lv_at hl 1 rfl) ?_
    refine gf_Mod_25 C hI d_Mod_step_59 ?_
    refine lv_iload_n hx hb d_Mod_step_62 rfl (lv_at hl 0 rfl) ?_
    obtain ⟨hg63, h⟩ := of_guard h
    refine al_M_5 C hI (f := σ.2 5) rfl hg63 d_Mod_step_63 ?_
    refine lv_istore_n (lv' := [(2, .int ((σ.2 5) (((48 : Int32) * ((σ.2 8) (σ.1 9).toNatClampNeg)) + ((4 : Int32) * ((σ.2 10) (((4 : Int32) * (σ.1 9)) + 3).toNatClampNeg))).toNatClampNeg)), (1, .int (((48 : Int32) * ((σ.2 8) (σ.1 9).toNatClampNeg)) + ((4 : Int32) * ((σ.2 10) (((4 : Int32) * (σ.1 9)) + 3).toNatClampNeg)))), (0, .ref (a 0))]) hx hb d_Mod_step_64 rfl hl (by decide) rfl (fun ls hl => ?_)
    refine lv_aload_n hx hb d_Mod_step_65 rfl (lv_at hl 2 rfl) ?_
    refine gf_Mod_25 C hI d_Mod_step_66 ?_
    refine lv_iload_n hx hb d_Mod_step_69 rfl (lv_at hl 1 rfl) ?_
    refine lv_iconst (v := 1) hx hb d_Mod_step_70 (by decide) ?_
    refine lv_iadd hx hb d_Mod_step_71 ?_
    obtain ⟨hg72, h⟩ := of_guard h
    refine al_M_5 C hI (f := σ.2 5) rfl hg72 d_Mod_step_72 ?_
    refine lv_istore_n (lv' := [(3, .int ((σ.2 5) ((((48 : Int32) * ((σ.2 8) (σ.1 9).toNatClampNeg)) + ((4 : Int32) * ((σ.2 10) (((4 : Int32) * (σ.1 9)) + 3).toNatClampNeg))) + 1).toNatClampNeg)), (2, .int ((σ.2 5) (((48 : Int32) * ((σ.2 8) (σ.1 9).toNatClampNeg)) + ((4 : Int32) * ((σ.2 10) (((4 : Int32) * (σ.1 9)) + 3).toNatClampNeg))).toNatClampNeg)), (1, .int (((48 : Int32) * ((σ.2 8) (σ.1 9).toNatClampNeg)) + ((4 : Int32) * ((σ.2 10) (((4 : Int32) * (σ.1 9)) + 3).toNatClampNeg)))), (0, .ref (a 0))]) hx hb d_Mod_step_73 rfl hl (by decide) rfl (fun ls hl => ?_)
    refine lv_aload_n hx hb d_Mod_step_74 rfl (lv_at hl 3 rfl) ?_
    refine gf_Mod_25 C hI d_Mod_step_75 ?_
    refine lv_iload_n hx hb d_Mod_step_78 rfl (lv_at hl 2 rfl) ?_
    refine lv_iconst (v := 2) hx hb d_Mod_step_79 (by decide) ?_
    refine lv_iadd hx hb d_Mod_step_80 ?_
    obtain ⟨hg81, h⟩ := of_guard h
    refine al_M_5 C hI (f := σ.2 5) rfl hg81 d_Mod_step_81 ?_
    refine lv_istore (lv' := [(4, .int ((σ.2 5) ((((48 : Int32) * ((σ.2 8) (σ.1 9).toNatClampNeg)) + ((4 : Int32) * ((σ.2 10) (((4 : Int32) * (σ.1 9)) + 3).toNatClampNeg))) + 2).toNatClampNeg)), (3, .int ((σ.2 5) ((((48 : Int32) * ((σ.2 8) (σ.1 9).toNatClampNeg)) + ((4 : Int32) * ((σ.2 10) (((4 : Int32) * (σ.1 9)) + 3).toNatClampNeg))) + 1).toNatClampNeg)), (2, .int ((σ.2 5) (((48 : Int32) * ((σ.2 8) (σ.1 9).toNatClampNeg)) + ((4 : Int32) * ((σ.2 10) (((4 : Int32) * (σ.1 9)) + 3).toNatClampNeg))).toNatClampNeg)), (1, .int (((48 : Int32) * ((σ.2 8) (σ.1 9).toNatClampNeg)) + ((4 : Int32) * ((σ.2 10) (((4 : Int32) * (σ.1 9)) + 3).toNatClampNeg)))), (0, .ref (a 0))]) hx hb d_Mod_step_82 hl (by decide) rfl (fun ls hl => ?_)
    refine lv_aload_n hx hb d_Mod_step_84 rfl (lv_at hl 4 rfl) ?_
    refine gf_Mod_25 C hI d_Mod_step_85 ?_
    refine lv_iload_n hx hb d_Mod_step_88 rfl (lv_at hl 3 rfl) ?_
    refine lv_iconst (v := 3) hx hb d_Mod_step_89 (by decide) ?_
    refine lv_iadd hx hb d_Mod_step_90 ?_
    obtain ⟨hg91, h⟩ := of_guard h
    refine al_M_5 C hI (f := σ.2 5) rfl hg91 d_Mod_step_91 ?_
    refine lv_istore (lv' := [(5, .int ((σ.2 5) ((((48 : Int32) * ((σ.2 8) (σ.1 9).toNatClampNeg)) + ((4 : Int32) * ((σ.2 10) (((4 : Int32) * (σ.1 9)) + 3).toNatClampNeg))) + 3).toNatClampNeg)), (4, .int ((σ.2 5) ((((48 : Int32) * ((σ.2 8) (σ.1 9).toNatClampNeg)) + ((4 : Int32) * ((σ.2 10) (((4 : Int32) * (σ.1 9)) + 3).toNatClampNeg))) + 2).toNatClampNeg)), (3, .int ((σ.2 5) ((((48 : Int32) * ((σ.2 8) (σ.1 9).toNatClampNeg)) + ((4 : Int32) * ((σ.2 10) (((4 : Int32) * (σ.1 9)) + 3).toNatClampNeg))) + 1).toNatClampNeg)), (2, .int ((σ.2 5) (((48 : Int32) * ((σ.2 8) (σ.1 9).toNatClampNeg)) + ((4 : Int32) * ((σ.2 10) (((4 : Int32) * (σ.1 9)) + 3).toNatClampNeg))).toNatClampNeg)), (1, .int (((48 : Int32) * ((σ.2 8) (σ.1 9).toNatClampNeg)) + ((4 : Int32) * ((σ.2 10) (((4 : Int32) * (σ.1 9)) + 3).toNatClampNeg)))), (0, .ref (a 0))]) hx hb d_Mod_step_92 hl (by decide) rfl (fun ls hl => ?_)
    refine lv_iload_n hx hb d_Mod_step_94 rfl (lv_at hl 3 rfl) ?_
    refine lv_iconst (v := 5) hx hb d_Mod_step_95 (by decide) ?_
    refine lv_icmp_lt (tgt := 118) hx hb d_Mod_step_96 (by decide) (fun hc => ?_) (fun hc => ?_)
    · replace h := of_pos hc h
      exact j_Mod_step_J118 C hr h (lv_sub hl [5, 3, 2, 1, 0] rfl) hI
    · replace h := of_neg hc h
      refine lv_iload_n hx hb d_Mod_step_99 rfl (lv_at hl 3 rfl) ?_
      refine lv_bipush (v := 8) hx hb d_Mod_step_100 (by decide) ?_
      refine lv_icmp_gt (tgt := 118) hx hb d_Mod_step_102 (by decide) (fun hc => ?_) (fun hc => ?_)
      · replace h := of_pos hc h
        exact j_Mod_step_J118 C hr h (lv_sub hl [5, 3, 2, 1, 0] rfl) hI
      · replace h := of_neg hc h
        refine lv_aload_n hx hb d_Mod_step_105 rfl (lv_at hl 5 rfl) ?_
        refine lv_iload_n hx hb d_Mod_step_106 rfl (lv_at hl 3 rfl) ?_
        refine lv_iload_n hx hb d_Mod_step_107 rfl (lv_at hl 2 rfl) ?_
        refine lv_iload hx hb d_Mod_step_108 (lv_at hl 1 rfl) ?_
        refine lv_iload hx hb d_Mod_step_110 (lv_at hl 0 rfl) ?_
        obtain ⟨p112, hp112, h⟩ := of_bind h
        refine rb_callV smok C (c_Mod_access hp112) cw_Mod_158 ⟨Nat.le_of_ble_eq_true rfl, Nat.le_of_ble_eq_true rfl⟩ ⟨rfl, rfl⟩ (q0 := 0) (ci := 4) rfl rfl hI ⟨Nat.zero_le _, Nat.zero_le _⟩ (As := [.int ((σ.2 5) (((48 : Int32) * ((σ.2 8) (σ.1 9).toNatClampNeg)) + ((4 : Int32) * ((σ.2 10) (((4 : Int32) * (σ.1 9)) + 3).toNatClampNeg))).toNatClampNeg), .int ((σ.2 5) ((((48 : Int32) * ((σ.2 8) (σ.1 9).toNatClampNeg)) + ((4 : Int32) * ((σ.2 10) (((4 : Int32) * (σ.1 9)) + 3).toNatClampNeg))) + 1).toNatClampNeg), .int ((σ.2 5) ((((48 : Int32) * ((σ.2 8) (σ.1 9).toNatClampNeg)) + ((4 : Int32) * ((σ.2 10) (((4 : Int32) * (σ.1 9)) + 3).toNatClampNeg))) + 2).toNatClampNeg), .int ((σ.2 5) ((((48 : Int32) * ((σ.2 8) (σ.1 9).toNatClampNeg)) + ((4 : Int32) * ((σ.2 10) (((4 : Int32) * (σ.1 9)) + 3).toNatClampNeg))) + 3).toNatClampNeg)]) rfl hl.1 (rest := []) (Nat.le_of_ble_eq_true rfl) rfl d_Mod_step_112 (fun H locs hI => ?_)
        refine lv_goto (tgt := 162) hx hb d_Mod_step_115 (by decide) ?_
        replace h := Option.some.inj h
        subst h
        exact rb_retV C hr hI d_Mod_step_162
  · replace h := of_neg hc h
    refine lv_aload_n hx hb d_Mod_step_7 rfl (lv_at hl 0 rfl) ?_
    obtain ⟨p8, hp8, h⟩ := of_bind h
    refine rb_callV smok C (c_Mod_unwind hp8) cw_Mod_155 ⟨Nat.le_of_ble_eq_true rfl, Nat.le_of_ble_eq_true rfl⟩ ⟨rfl, rfl⟩ (q0 := 0) (ci := 4) rfl rfl hI ⟨Nat.zero_le _, Nat.zero_le _⟩ (As := []) rfl hl.1 (rest := []) (Nat.le_of_ble_eq_true rfl) rfl d_Mod_step_8 (fun H locs hI => ?_)
    replace h := Option.some.inj h
    subst h
    exact rb_retV C hr hI d_Mod_step_11
theorem d_Mod_run_0 : decode b_Mod_run 0 = .ok (.iload_n 1, 1) := by decide +kernel
theorem d_Mod_run_1 : decode b_Mod_run 1 = .ok (.ifCond .lt 10, 3) := by decide +kernel
theorem d_Mod_run_4 : decode b_Mod_run 4 = .ok (.iload_n 1, 1) := by decide +kernel
theorem d_Mod_run_5 : decode b_Mod_run 5 = .ok (.sipush 200, 3) := by decide +kernel
theorem d_Mod_run_8 : decode b_Mod_run 8 = .ok (.if_icmp .le 5, 3) := by decide +kernel
theorem d_Mod_run_11 : decode b_Mod_run 11 = .ok (.iconst (-1), 1) := by decide +kernel
theorem d_Mod_run_12 : decode b_Mod_run 12 = .ok (.ireturn, 1) := by decide +kernel
theorem d_Mod_run_13 : decode b_Mod_run 13 = .ok (.aload_n 0, 1) := by decide +kernel
theorem d_Mod_run_14 : decode b_Mod_run 14 = .ok (.iconst 0, 1) := by decide +kernel
theorem d_Mod_run_15 : decode b_Mod_run 15 = .ok (.putfield 140, 3) := by decide +kernel
theorem d_Mod_run_18 : decode b_Mod_run 18 = .ok (.iconst 0, 1) := by decide +kernel
theorem d_Mod_run_19 : decode b_Mod_run 19 = .ok (.istore_n 2, 1) := by decide +kernel
theorem d_Mod_run_20 : decode b_Mod_run 20 = .ok (.iload_n 2, 1) := by decide +kernel
theorem d_Mod_run_21 : decode b_Mod_run 21 = .ok (.iload_n 1, 1) := by decide +kernel
theorem d_Mod_run_22 : decode b_Mod_run 22 = .ok (.if_icmp .ge 51, 3) := by decide +kernel
theorem d_Mod_run_25 : decode b_Mod_run 25 = .ok (.aload_n 0, 1) := by decide +kernel
theorem d_Mod_run_26 : decode b_Mod_run 26 = .ok (.getfield 53, 3) := by decide +kernel
theorem d_Mod_run_29 : decode b_Mod_run 29 = .ok (.ifCond .ne 44, 3) := by decide +kernel
theorem d_Mod_run_32 : decode b_Mod_run 32 = .ok (.aload_n 0, 1) := by decide +kernel
theorem d_Mod_run_33 : decode b_Mod_run 33 = .ok (.iconst 0, 1) := by decide +kernel
theorem d_Mod_run_34 : decode b_Mod_run 34 = .ok (.putfield 98, 3) := by decide +kernel
theorem d_Mod_run_37 : decode b_Mod_run 37 = .ok (.aload_n 0, 1) := by decide +kernel
theorem d_Mod_run_38 : decode b_Mod_run 38 = .ok (.invokevirtual 149, 3) := by decide +kernel
theorem d_Mod_run_41 : decode b_Mod_run 41 = .ok (.aload_n 0, 1) := by decide +kernel
theorem d_Mod_run_42 : decode b_Mod_run 42 = .ok (.aload_n 0, 1) := by decide +kernel
theorem d_Mod_run_43 : decode b_Mod_run 43 = .ok (.getfield 98, 3) := by decide +kernel
theorem d_Mod_run_46 : decode b_Mod_run 46 = .ok (.aload_n 0, 1) := by decide +kernel
theorem d_Mod_run_47 : decode b_Mod_run 47 = .ok (.getfield 140, 3) := by decide +kernel
theorem d_Mod_run_50 : decode b_Mod_run 50 = .ok (.if_icmp .le 10, 3) := by decide +kernel
theorem d_Mod_run_53 : decode b_Mod_run 53 = .ok (.aload_n 0, 1) := by decide +kernel
theorem d_Mod_run_54 : decode b_Mod_run 54 = .ok (.getfield 98, 3) := by decide +kernel
theorem d_Mod_run_57 : decode b_Mod_run 57 = .ok (.goto 7, 3) := by decide +kernel
theorem d_Mod_run_60 : decode b_Mod_run 60 = .ok (.aload_n 0, 1) := by decide +kernel
theorem d_Mod_run_61 : decode b_Mod_run 61 = .ok (.getfield 140, 3) := by decide +kernel
theorem d_Mod_run_64 : decode b_Mod_run 64 = .ok (.putfield 140, 3) := by decide +kernel
theorem d_Mod_run_67 : decode b_Mod_run 67 = .ok (.iinc 2 1, 3) := by decide +kernel
theorem d_Mod_run_70 : decode b_Mod_run 70 = .ok (.goto (-50), 3) := by decide +kernel
theorem d_Mod_run_73 : decode b_Mod_run 73 = .ok (.iload_n 2, 1) := by decide +kernel
theorem d_Mod_run_74 : decode b_Mod_run 74 = .ok (.ireturn, 1) := by decide +kernel
abbrev rm_Mod_run : Room := { frames := 7, cells := 0, slots := 0, locals := 161 }
set_option maxHeartbeats 4000000 in
set_option maxRecDepth 100000 in
theorem j_Mod_run_B20_J64 {l : Launch} {dC : Nat → ClassId} {dI : Nat → Nat → Nat} {a : Nat → Nat} {cI cZ : ClassId} {pr : Program} {e : Env} {s : State} {m : MethodId} {args : Array Value} {below : List Frame} {meth : Method} {c : Code} {A : Nat → Prop} {ls : Array Slot} {H : Heap} {locs : List Loc} {σ : St} {x1 x2 s0 : Int32} {q : Nat × (Int32 × St)} {Q : State → Prop} (C : Cx (dC, dI) clA (tyM cI cZ) SXm pr s m args meth c b_Mod_run 3 y_Mod_run.cls A) (h : fMod_run_B20_J64 σ x1 x2 s0 = some q) (hl : lv_has ls 3 [(0, .ref (a 0)), (1, .int x1), (2, .int x2)]) (hI : Wi (dC, dI) clA (wM a cI cZ σ) s A H locs) (kC : q.1 = 1 → ∀ (ls : Array Slot) (H : Heap) (locs : List Loc), lv_has ls 3 [(0, .ref (a 0)), (1, .int x1), (2, .int q.2.1)] → Wi (dC, dI) clA (wM a cI cZ q.2.2) s A H locs → W pr l e rm_Mod_run s m args below meth c H locs 0 0 Q (F0 m 20 ls [])) (kX0 : q.1 = 0 → ∀ (ls : Array Slot) (H : Heap) (locs : List Loc), lv_has ls 3 [(0, .ref (a 0)), (1, .int x1), (2, .int q.2.1)] → Wi (dC, dI) clA (wM a cI cZ q.2.2) s A H locs → W pr l e rm_Mod_run s m args below meth c H locs 0 0 Q (F0 m 73 ls [])) : W pr l e rm_Mod_run s m args below meth c H locs 0 0 Q (F0 m 64 ls [.int s0, .ref (a 0)]) := by
  have hx := C.1
  have hb := C.2.1
  unfold fMod_run_B20_J64 at h
  refine pf_Mod_140 C hI (σ' := (upd σ.1 17 s0, σ.2)) rfl d_Mod_run_64 (fun H locs hI => ?_)
  refine lv_iinc (k := 2) (v := x2 + 1) (lv' := [(2, .int (x2 + 1)), (0, .ref (a 0)), (1, .int x1)]) hx hb d_Mod_run_67 hl rfl rfl (by decide) rfl (fun ls hl => ?_)
  refine lv_goto (tgt := 20) hx hb d_Mod_run_70 (by decide) ?_
  replace h := Option.some.inj h
  subst h
  exact kC rfl _ _ _ (lv_sub hl [1, 2, 0] rfl) hI
set_option maxHeartbeats 4000000 in
set_option maxRecDepth 100000 in
theorem b_Mod_run_B20 {l : Launch} {dC : Nat → ClassId} {dI : Nat → Nat → Nat} {a : Nat → Nat} {cI cZ : ClassId} {pr : Program} {e : Env} {s : State} {m : MethodId} {args : Array Value} {below : List Frame} {meth : Method} {c : Code} {A : Nat → Prop} {ls : Array Slot} {H : Heap} {locs : List Loc} {x1 : Int32} {s0 : Int32 × St} {q : Nat × (Int32 × St)} {Q : State → Prop} (C : Cx (dC, dI) clA (tyM cI cZ) SXm pr s m args meth c b_Mod_run 3 y_Mod_run.cls A) (h : fMod_run_B20 x1 s0 = some q) (hl : lv_has ls 3 [(0, .ref (a 0)), (1, .int x1), (2, .int s0.1)]) (hI : Wi (dC, dI) clA (wM a cI cZ s0.2) s A H locs) (kC : q.1 = 1 → ∀ (ls : Array Slot) (H : Heap) (locs : List Loc), lv_has ls 3 [(0, .ref (a 0)), (1, .int x1), (2, .int q.2.1)] → Wi (dC, dI) clA (wM a cI cZ q.2.2) s A H locs → W pr l e rm_Mod_run s m args below meth c H locs 0 0 Q (F0 m 20 ls [])) (kX0 : q.1 = 0 → ∀ (ls : Array Slot) (H : Heap) (locs : List Loc), lv_has ls 3 [(0, .ref (a 0)), (1, .int x1), (2, .int q.2.1)] → Wi (dC, dI) clA (wM a cI cZ q.2.2) s A H locs → W pr l e rm_Mod_run s m args below meth c H locs 0 0 Q (F0 m 73 ls [])) : W pr l e rm_Mod_run s m args below meth c H locs 0 0 Q (F0 m 20 ls []) := by
  have hx := C.1
  have hb := C.2.1
  unfold fMod_run_B20 at h
  refine lv_iload_n hx hb d_Mod_run_20 rfl (lv_at hl 2 rfl) ?_
  refine lv_iload_n hx hb d_Mod_run_21 rfl (lv_at hl 1 rfl) ?_
  refine lv_icmp_ge (tgt := 73) hx hb d_Mod_run_22 (by decide) (fun hc => ?_) (fun hc => ?_)
  · replace h := of_pos hc h
    replace h := Option.some.inj h
    subst h
    exact kX0 rfl _ _ _ (lv_sub hl [0, 1, 2] rfl) hI
  · replace h := of_neg hc h
    refine lv_aload_n hx hb d_Mod_run_25 rfl (lv_at hl 0 rfl) ?_
    refine gf_Mod_53 C hI (v := s0.2.1 12) rfl d_Mod_run_26 ?_
    refine lv_if_ne (tgt := 73) hx hb d_Mod_run_29 (by decide) (fun hc => ?_) (fun hc => ?_)
    · replace h := of_neg hc h
      replace h := Option.some.inj h
      subst h
      exact kX0 rfl _ _ _ (lv_sub hl [0, 1, 2] rfl) hI
    · replace h := of_pos hc h
      refine lv_aload_n hx hb d_Mod_run_32 rfl (lv_at hl 0 rfl) ?_
      refine lv_iconst (v := 0) hx hb d_Mod_run_33 (by decide) ?_
      refine pf_Mod_98 C hI (σ' := (upd s0.2.1 16 0, s0.2.2)) rfl d_Mod_run_34 (fun H locs hI => ?_)
      refine lv_aload_n hx hb d_Mod_run_37 rfl (lv_at hl 0 rfl) ?_
      obtain ⟨p38, hp38, h⟩ := of_bind h
      refine rb_callV smok C (c_Mod_step hp38) cw_Mod_149 ⟨Nat.le_of_ble_eq_true rfl, Nat.le_of_ble_eq_true rfl⟩ ⟨rfl, rfl⟩ (q0 := 0) (ci := 4) rfl rfl hI ⟨Nat.zero_le _, Nat.zero_le _⟩ (As := []) rfl hl.1 (rest := []) (Nat.le_of_ble_eq_true rfl) rfl d_Mod_run_38 (fun H locs hI => ?_)
      refine lv_aload_n hx hb d_Mod_run_41 rfl (lv_at hl 0 rfl) ?_
      refine lv_aload_n hx hb d_Mod_run_42 rfl (lv_at hl 0 rfl) ?_
      refine gf_Mod_98 C hI (v := p38.1 16) rfl d_Mod_run_43 ?_
      refine lv_aload_n hx hb d_Mod_run_46 rfl (lv_at hl 0 rfl) ?_
      refine gf_Mod_140 C hI (v := p38.1 17) rfl d_Mod_run_47 ?_
      refine lv_icmp_le (tgt := 60) hx hb d_Mod_run_50 (by decide) (fun hc => ?_) (fun hc => ?_)
      · replace h := of_pos hc h
        refine lv_aload_n hx hb d_Mod_run_60 rfl (lv_at hl 0 rfl) ?_
        refine gf_Mod_140 C hI (v := p38.1 17) rfl d_Mod_run_61 ?_
        exact j_Mod_run_B20_J64 C h (lv_sub hl [0, 1, 2] rfl) hI kC kX0
      · replace h := of_neg hc h
        refine lv_aload_n hx hb d_Mod_run_53 rfl (lv_at hl 0 rfl) ?_
        refine gf_Mod_98 C hI (v := p38.1 16) rfl d_Mod_run_54 ?_
        refine lv_goto (tgt := 64) hx hb d_Mod_run_57 (by decide) ?_
        exact j_Mod_run_B20_J64 C h (lv_sub hl [0, 1, 2] rfl) hI kC kX0
set_option maxHeartbeats 4000000 in
set_option maxRecDepth 100000 in
theorem l_Mod_run_B20 {l : Launch} {dC : Nat → ClassId} {dI : Nat → Nat → Nat} {a : Nat → Nat} {cI cZ : ClassId} {pr : Program} {e : Env} {s : State} {m : MethodId} {args : Array Value} {below : List Frame} {meth : Method} {c : Code} {A : Nat → Prop} {x1 : Int32} {Q : State → Prop} (C : Cx (dC, dI) clA (tyM cI cZ) SXm pr s m args meth c b_Mod_run 3 y_Mod_run.cls A) : ∀ (k : Nat) (s0 : Int32 × St) (q : Nat × (Int32 × St)) (ls : Array Slot) (H : Heap) (locs : List Loc), rbLoop (fMod_run_B20 x1) k s0 = some q → lv_has ls 3 [(0, .ref (a 0)), (1, .int x1), (2, .int s0.1)] → Wi (dC, dI) clA (wM a cI cZ s0.2) s A H locs → (q.1 = 0 → ∀ (ls : Array Slot) (H : Heap) (locs : List Loc), lv_has ls 3 [(0, .ref (a 0)), (1, .int x1), (2, .int q.2.1)] → Wi (dC, dI) clA (wM a cI cZ q.2.2) s A H locs → W pr l e rm_Mod_run s m args below meth c H locs 0 0 Q (F0 m 73 ls [])) → W pr l e rm_Mod_run s m args below meth c H locs 0 0 Q (F0 m 20 ls []) := by
  intro k
  induction k with
  | zero => intro s0 q ls H locs h; cases h
  | succ k ih =>
    intro s0 q ls H locs h hl hI kX0
    obtain ⟨q1, hq1, h⟩ := rbLoop_succ h
    by_cases hc : q1.1 = 1
    · replace h := of_pos hc h
      refine b_Mod_run_B20 C hq1 hl hI (fun _ ls H locs hl hI => ih _ _ _ _ _ h hl hI kX0) (fun hz => absurd (hc.symm.trans hz) (by decide))
    · replace h := of_neg hc h
      cases h
      exact b_Mod_run_B20 C hq1 hl hI (fun hz => absurd hz hc) kX0
set_option maxHeartbeats 4000000 in
set_option maxRecDepth 100000 in
theorem c_Mod_run {l : Launch} {dC : Nat → ClassId} {dI : Nat → Nat → Nat} {a : Nat → Nat} {cI cZ : ClassId} {σ : St} {x1 : Int32} {q : Int32 × St} (h : fMod_run σ x1 = some q) : CI l (dC, dI) clA (tyM cI cZ) SXm (wM a cI cZ σ) (wM a cI cZ q.2) y_Mod_run b_Mod_run 3 (some .int) rm_Mod_run [.ref (a 0), .int x1] q.1 := by
  refine CI_of (by decide) (Nat.le_of_ble_eq_true rfl) ?_
  intro pr e s m below meth c A ls C hr hl hI
  have hx := C.1
  have hb := C.2.1
  have hl : lv_has ls 3 [(0, .ref (a 0)), (1, .int x1)] := hl
  unfold fMod_run at h
  refine lv_iload_n hx hb d_Mod_run_0 rfl (lv_at hl 1 rfl) ?_
  refine lv_if_lt (tgt := 11) hx hb d_Mod_run_1 (by decide) (fun hc => ?_) (fun hc => ?_)
  · replace h := of_pos hc h
    refine lv_iconst (v := (-1)) hx hb d_Mod_run_11 (by decide) ?_
    replace h := Option.some.inj h
    subst h
    exact rb_retI C hr hI d_Mod_run_12
  · replace h := of_neg hc h
    refine lv_iload_n hx hb d_Mod_run_4 rfl (lv_at hl 1 rfl) ?_
    refine lv_sipush (v := 200) hx hb d_Mod_run_5 (by decide) ?_
    refine lv_icmp_le (tgt := 13) hx hb d_Mod_run_8 (by decide) (fun hc => ?_) (fun hc => ?_)
    · replace h := of_pos hc h
      refine lv_aload_n hx hb d_Mod_run_13 rfl (lv_at hl 0 rfl) ?_
      refine lv_iconst (v := 0) hx hb d_Mod_run_14 (by decide) ?_
      refine pf_Mod_140 C hI (σ' := (upd σ.1 17 0, σ.2)) rfl d_Mod_run_15 (fun H locs hI => ?_)
      refine lv_iconst (v := 0) hx hb d_Mod_run_18 (by decide) ?_
      refine lv_istore_n (lv' := [(2, .int 0), (0, .ref (a 0)), (1, .int x1)]) hx hb d_Mod_run_19 rfl hl (by decide) rfl (fun ls hl => ?_)
      obtain ⟨q20, hq20, h⟩ := of_bind h
      refine l_Mod_run_B20 C _ _ _ _ _ _ hq20 (lv_sub hl [1, 2, 0] rfl) hI ?_
      intro _ ls H locs hl hI
      refine lv_iload_n hx hb d_Mod_run_73 rfl (lv_at hl 2 rfl) ?_
      replace h := Option.some.inj h
      subst h
      exact rb_retI C hr hI d_Mod_run_74
    · replace h := of_neg hc h
      refine lv_iconst (v := (-1)) hx hb d_Mod_run_11 (by decide) ?_
      replace h := Option.some.inj h
      subst h
      exact rb_retI C hr hI d_Mod_run_12
theorem d_Mod_state_0 : decode b_Mod_state 0 = .ok (.aload_n 0, 1) := by decide +kernel
theorem d_Mod_state_1 : decode b_Mod_state 1 = .ok (.getfield 53, 3) := by decide +kernel
theorem d_Mod_state_4 : decode b_Mod_state 4 = .ok (.ireturn, 1) := by decide +kernel
abbrev rm_Mod_state : Room := { frames := 0, cells := 0, slots := 0, locals := 0 }
set_option maxHeartbeats 4000000 in
set_option maxRecDepth 100000 in
theorem c_Mod_state {l : Launch} {dC : Nat → ClassId} {dI : Nat → Nat → Nat} {a : Nat → Nat} {cI cZ : ClassId} {σ : St} {q : Int32 × St} (h : fMod_state σ = some q) : CI l (dC, dI) clA (tyM cI cZ) SXm (wM a cI cZ σ) (wM a cI cZ q.2) y_Mod_state b_Mod_state 1 (some .int) rm_Mod_state [.ref (a 0)] q.1 := by
  refine CI_of (by decide) (Nat.le_of_ble_eq_true rfl) ?_
  intro pr e s m below meth c A ls C hr hl hI
  have hx := C.1
  have hb := C.2.1
  have hl : lv_has ls 1 [(0, .ref (a 0))] := hl
  unfold fMod_state at h
  refine lv_aload_n hx hb d_Mod_state_0 rfl (lv_at hl 0 rfl) ?_
  refine gf_Mod_53 C hI (v := σ.1 12) rfl d_Mod_state_1 ?_
  replace h := Option.some.inj h
  subst h
  exact rb_retI C hr hI d_Mod_state_4
theorem d_Mod_result_0 : decode b_Mod_result 0 = .ok (.aload_n 0, 1) := by decide +kernel
theorem d_Mod_result_1 : decode b_Mod_result 1 = .ok (.getfield 53, 3) := by decide +kernel
theorem d_Mod_result_4 : decode b_Mod_result 4 = .ok (.iconst 1, 1) := by decide +kernel
theorem d_Mod_result_5 : decode b_Mod_result 5 = .ok (.if_icmp .eq 11, 3) := by decide +kernel
theorem d_Mod_result_8 : decode b_Mod_result 8 = .ok (.aload_n 0, 1) := by decide +kernel
theorem d_Mod_result_9 : decode b_Mod_result 9 = .ok (.getfield 53, 3) := by decide +kernel
theorem d_Mod_result_12 : decode b_Mod_result 12 = .ok (.iconst 2, 1) := by decide +kernel
theorem d_Mod_result_13 : decode b_Mod_result 13 = .ok (.if_icmp .ne 10, 3) := by decide +kernel
theorem d_Mod_result_16 : decode b_Mod_result 16 = .ok (.aload_n 0, 1) := by decide +kernel
theorem d_Mod_result_17 : decode b_Mod_result 17 = .ok (.getfield 146, 3) := by decide +kernel
theorem d_Mod_result_20 : decode b_Mod_result 20 = .ok (.goto 4, 3) := by decide +kernel
theorem d_Mod_result_23 : decode b_Mod_result 23 = .ok (.iconst 0, 1) := by decide +kernel
theorem d_Mod_result_24 : decode b_Mod_result 24 = .ok (.ireturn, 1) := by decide +kernel
abbrev rm_Mod_result : Room := { frames := 0, cells := 0, slots := 0, locals := 0 }
set_option maxHeartbeats 4000000 in
set_option maxRecDepth 100000 in
theorem c_Mod_result {l : Launch} {dC : Nat → ClassId} {dI : Nat → Nat → Nat} {a : Nat → Nat} {cI cZ : ClassId} {σ : St} {q : Int32 × St} (h : fMod_result σ = some q) : CI l (dC, dI) clA (tyM cI cZ) SXm (wM a cI cZ σ) (wM a cI cZ q.2) y_Mod_result b_Mod_result 1 (some .int) rm_Mod_result [.ref (a 0)] q.1 := by
  refine CI_of (by decide) (Nat.le_of_ble_eq_true rfl) ?_
  intro pr e s m below meth c A ls C hr hl hI
  have hx := C.1
  have hb := C.2.1
  have hl : lv_has ls 1 [(0, .ref (a 0))] := hl
  unfold fMod_result at h
  refine lv_aload_n hx hb d_Mod_result_0 rfl (lv_at hl 0 rfl) ?_
  refine gf_Mod_53 C hI (v := σ.1 12) rfl d_Mod_result_1 ?_
  refine lv_iconst (v := 1) hx hb d_Mod_result_4 (by decide) ?_
  refine lv_icmp_eq (tgt := 16) hx hb d_Mod_result_5 (by decide) (fun hc => ?_) (fun hc => ?_)
  · replace h := of_pos hc h
    refine lv_aload_n hx hb d_Mod_result_16 rfl (lv_at hl 0 rfl) ?_
    refine gf_Mod_146 C hI (v := σ.1 13) rfl d_Mod_result_17 ?_
    refine lv_goto (tgt := 24) hx hb d_Mod_result_20 (by decide) ?_
    replace h := Option.some.inj h
    subst h
    exact rb_retI C hr hI d_Mod_result_24
  · replace h := of_neg hc h
    refine lv_aload_n hx hb d_Mod_result_8 rfl (lv_at hl 0 rfl) ?_
    refine gf_Mod_53 C hI (v := σ.1 12) rfl d_Mod_result_9 ?_
    refine lv_iconst (v := 2) hx hb d_Mod_result_12 (by decide) ?_
    refine lv_icmp_ne (tgt := 23) hx hb d_Mod_result_13 (by decide) (fun hc => ?_) (fun hc => ?_)
    · replace h := of_neg hc h
      refine lv_iconst (v := 0) hx hb d_Mod_result_23 (by decide) ?_
      replace h := Option.some.inj h
      subst h
      exact rb_retI C hr hI d_Mod_result_24
    · replace h := of_pos hc h
      refine lv_aload_n hx hb d_Mod_result_16 rfl (lv_at hl 0 rfl) ?_
      refine gf_Mod_146 C hI (v := σ.1 13) rfl d_Mod_result_17 ?_
      refine lv_goto (tgt := 24) hx hb d_Mod_result_20 (by decide) ?_
      replace h := Option.some.inj h
      subst h
      exact rb_retI C hr hI d_Mod_result_24
theorem d_Mod_shown_0 : decode b_Mod_shown 0 = .ok (.iload_n 1, 1) := by decide +kernel
theorem d_Mod_shown_1 : decode b_Mod_shown 1 = .ok (.iconst (-1), 1) := by decide +kernel
theorem d_Mod_shown_2 : decode b_Mod_shown 2 = .ok (.if_icmp .ne 8, 3) := by decide +kernel
theorem d_Mod_shown_5 : decode b_Mod_shown 5 = .ok (.aload_n 0, 1) := by decide +kernel
theorem d_Mod_shown_6 : decode b_Mod_shown 6 = .ok (.getfield 137, 3) := by decide +kernel
theorem d_Mod_shown_9 : decode b_Mod_shown 9 = .ok (.ireturn, 1) := by decide +kernel
theorem d_Mod_shown_10 : decode b_Mod_shown 10 = .ok (.iload_n 1, 1) := by decide +kernel
theorem d_Mod_shown_11 : decode b_Mod_shown 11 = .ok (.bipush 8, 2) := by decide +kernel
theorem d_Mod_shown_13 : decode b_Mod_shown 13 = .ok (.invokestatic 69, 3) := by decide +kernel
theorem d_Mod_shown_16 : decode b_Mod_shown 16 = .ok (.ifCond .eq 20, 3) := by decide +kernel
theorem d_Mod_shown_19 : decode b_Mod_shown 19 = .ok (.iload_n 1, 1) := by decide +kernel
theorem d_Mod_shown_20 : decode b_Mod_shown 20 = .ok (.aload_n 0, 1) := by decide +kernel
theorem d_Mod_shown_21 : decode b_Mod_shown 21 = .ok (.getfield 137, 3) := by decide +kernel
theorem d_Mod_shown_24 : decode b_Mod_shown 24 = .ok (.if_icmp .ge 12, 3) := by decide +kernel
theorem d_Mod_shown_27 : decode b_Mod_shown 27 = .ok (.aload_n 0, 1) := by decide +kernel
theorem d_Mod_shown_28 : decode b_Mod_shown 28 = .ok (.getfield 57, 3) := by decide +kernel
theorem d_Mod_shown_31 : decode b_Mod_shown 31 = .ok (.iload_n 1, 1) := by decide +kernel
theorem d_Mod_shown_32 : decode b_Mod_shown 32 = .ok (.iaload, 1) := by decide +kernel
theorem d_Mod_shown_33 : decode b_Mod_shown 33 = .ok (.goto 4, 3) := by decide +kernel
theorem d_Mod_shown_36 : decode b_Mod_shown 36 = .ok (.iconst 0, 1) := by decide +kernel
theorem d_Mod_shown_37 : decode b_Mod_shown 37 = .ok (.ireturn, 1) := by decide +kernel
abbrev rm_Mod_shown : Room := { frames := 1, cells := 0, slots := 0, locals := 21 }
set_option maxHeartbeats 4000000 in
set_option maxRecDepth 100000 in
theorem c_Mod_shown {l : Launch} {dC : Nat → ClassId} {dI : Nat → Nat → Nat} {a : Nat → Nat} {cI cZ : ClassId} {σ : St} {x1 : Int32} {q : Int32 × St} (h : fMod_shown σ x1 = some q) : CI l (dC, dI) clA (tyM cI cZ) SXm (wM a cI cZ σ) (wM a cI cZ q.2) y_Mod_shown b_Mod_shown 2 (some .int) rm_Mod_shown [.ref (a 0), .int x1] q.1 := by
  refine CI_of (by decide) (Nat.le_of_ble_eq_true rfl) ?_
  intro pr e s m below meth c A ls C hr hl hI
  have hx := C.1
  have hb := C.2.1
  have hl : lv_has ls 2 [(0, .ref (a 0)), (1, .int x1)] := hl
  unfold fMod_shown at h
  refine lv_iload_n hx hb d_Mod_shown_0 rfl (lv_at hl 1 rfl) ?_
  refine lv_iconst (v := (-1)) hx hb d_Mod_shown_1 (by decide) ?_
  refine lv_icmp_ne (tgt := 10) hx hb d_Mod_shown_2 (by decide) (fun hc => ?_) (fun hc => ?_)
  · replace h := of_neg hc h
    refine lv_iload_n hx hb d_Mod_shown_10 rfl (lv_at hl 1 rfl) ?_
    refine lv_bipush (v := 8) hx hb d_Mod_shown_11 (by decide) ?_
    obtain ⟨p13, hp13, h⟩ := of_bind h
    refine rb_callSI smok C (c_Mod_below hp13) cw_Mod_69 ⟨Nat.le_of_ble_eq_true rfl, Nat.le_of_ble_eq_true rfl⟩ ⟨rfl, rfl⟩ hI ⟨Nat.zero_le _, Nat.zero_le _⟩ (As := [.int x1, .int 8]) rfl hl.1 (rest := []) (Nat.le_of_ble_eq_true rfl) rfl d_Mod_shown_13 (fun H locs hI => ?_)
    refine lv_if_eq (tgt := 36) hx hb d_Mod_shown_16 (by decide) (fun hc => ?_) (fun hc => ?_)
    · replace h := of_pos hc h
      refine lv_iconst (v := 0) hx hb d_Mod_shown_36 (by decide) ?_
      replace h := Option.some.inj h
      subst h
      exact rb_retI C hr hI d_Mod_shown_37
    · replace h := of_neg hc h
      refine lv_iload_n hx hb d_Mod_shown_19 rfl (lv_at hl 1 rfl) ?_
      refine lv_aload_n hx hb d_Mod_shown_20 rfl (lv_at hl 0 rfl) ?_
      refine gf_Mod_137 C hI (v := p13.2.1 15) rfl d_Mod_shown_21 ?_
      refine lv_icmp_ge (tgt := 36) hx hb d_Mod_shown_24 (by decide) (fun hc => ?_) (fun hc => ?_)
      · replace h := of_pos hc h
        refine lv_iconst (v := 0) hx hb d_Mod_shown_36 (by decide) ?_
        replace h := Option.some.inj h
        subst h
        exact rb_retI C hr hI d_Mod_shown_37
      · replace h := of_neg hc h
        refine lv_aload_n hx hb d_Mod_shown_27 rfl (lv_at hl 0 rfl) ?_
        refine gf_Mod_57 C hI d_Mod_shown_28 ?_
        refine lv_iload_n hx hb d_Mod_shown_31 rfl (lv_at hl 1 rfl) ?_
        obtain ⟨hg32, h⟩ := of_guard h
        refine al_M_14 C hI (f := p13.2.2 14) rfl hg32 d_Mod_shown_32 ?_
        refine lv_goto (tgt := 37) hx hb d_Mod_shown_33 (by decide) ?_
        replace h := Option.some.inj h
        subst h
        exact rb_retI C hr hI d_Mod_shown_37
  · replace h := of_pos hc h
    refine lv_aload_n hx hb d_Mod_shown_5 rfl (lv_at hl 0 rfl) ?_
    refine gf_Mod_137 C hI (v := σ.1 15) rfl d_Mod_shown_6 ?_
    replace h := Option.some.inj h
    subst h
    exact rb_retI C hr hI d_Mod_shown_9
theorem d_Mod_work_0 : decode b_Mod_work 0 = .ok (.aload_n 0, 1) := by decide +kernel
theorem d_Mod_work_1 : decode b_Mod_work 1 = .ok (.getfield 140, 3) := by decide +kernel
theorem d_Mod_work_4 : decode b_Mod_work 4 = .ok (.ireturn, 1) := by decide +kernel
abbrev rm_Mod_work : Room := { frames := 0, cells := 0, slots := 0, locals := 0 }
set_option maxHeartbeats 4000000 in
set_option maxRecDepth 100000 in
theorem c_Mod_work {l : Launch} {dC : Nat → ClassId} {dI : Nat → Nat → Nat} {a : Nat → Nat} {cI cZ : ClassId} {σ : St} {q : Int32 × St} (h : fMod_work σ = some q) : CI l (dC, dI) clA (tyM cI cZ) SXm (wM a cI cZ σ) (wM a cI cZ q.2) y_Mod_work b_Mod_work 1 (some .int) rm_Mod_work [.ref (a 0)] q.1 := by
  refine CI_of (by decide) (Nat.le_of_ble_eq_true rfl) ?_
  intro pr e s m below meth c A ls C hr hl hI
  have hx := C.1
  have hb := C.2.1
  have hl : lv_has ls 1 [(0, .ref (a 0))] := hl
  unfold fMod_work at h
  refine lv_aload_n hx hb d_Mod_work_0 rfl (lv_at hl 0 rfl) ?_
  refine gf_Mod_140 C hI (v := σ.1 17) rfl d_Mod_work_1 ?_
  replace h := Option.some.inj h
  subst h
  exact rb_retI C hr hI d_Mod_work_4
theorem d_Mod_used_0 : decode b_Mod_used 0 = .ok (.aload_n 0, 1) := by decide +kernel
theorem d_Mod_used_1 : decode b_Mod_used 1 = .ok (.getfield 88, 3) := by decide +kernel
theorem d_Mod_used_4 : decode b_Mod_used 4 = .ok (.ireturn, 1) := by decide +kernel
abbrev rm_Mod_used : Room := { frames := 0, cells := 0, slots := 0, locals := 0 }
set_option maxHeartbeats 4000000 in
set_option maxRecDepth 100000 in
theorem c_Mod_used {l : Launch} {dC : Nat → ClassId} {dI : Nat → Nat → Nat} {a : Nat → Nat} {cI cZ : ClassId} {σ : St} {q : Int32 × St} (h : fMod_used σ = some q) : CI l (dC, dI) clA (tyM cI cZ) SXm (wM a cI cZ σ) (wM a cI cZ q.2) y_Mod_used b_Mod_used 1 (some .int) rm_Mod_used [.ref (a 0)] q.1 := by
  refine CI_of (by decide) (Nat.le_of_ble_eq_true rfl) ?_
  intro pr e s m below meth c A ls C hr hl hI
  have hx := C.1
  have hb := C.2.1
  have hl : lv_has ls 1 [(0, .ref (a 0))] := hl
  unfold fMod_used at h
  refine lv_aload_n hx hb d_Mod_used_0 rfl (lv_at hl 0 rfl) ?_
  refine gf_Mod_88 C hI (v := σ.1 5) rfl d_Mod_used_1 ?_
  replace h := Option.some.inj h
  subst h
  exact rb_retI C hr hI d_Mod_used_4
theorem d_Mod_grey_0 : decode b_Mod_grey 0 = .ok (.iconst 0, 1) := by decide +kernel
theorem d_Mod_grey_1 : decode b_Mod_grey 1 = .ok (.istore_n 1, 1) := by decide +kernel
theorem d_Mod_grey_2 : decode b_Mod_grey 2 = .ok (.aload_n 0, 1) := by decide +kernel
theorem d_Mod_grey_3 : decode b_Mod_grey 3 = .ok (.getfield 105, 3) := by decide +kernel
theorem d_Mod_grey_6 : decode b_Mod_grey 6 = .ok (.istore_n 2, 1) := by decide +kernel
theorem d_Mod_grey_7 : decode b_Mod_grey 7 = .ok (.iload_n 2, 1) := by decide +kernel
theorem d_Mod_grey_8 : decode b_Mod_grey 8 = .ok (.aload_n 0, 1) := by decide +kernel
theorem d_Mod_grey_9 : decode b_Mod_grey 9 = .ok (.getfield 95, 3) := by decide +kernel
theorem d_Mod_grey_12 : decode b_Mod_grey 12 = .ok (.if_icmp .ge 22, 3) := by decide +kernel
theorem d_Mod_grey_15 : decode b_Mod_grey 15 = .ok (.iload_n 1, 1) := by decide +kernel
theorem d_Mod_grey_16 : decode b_Mod_grey 16 = .ok (.aload_n 0, 1) := by decide +kernel
theorem d_Mod_grey_17 : decode b_Mod_grey 17 = .ok (.aload_n 0, 1) := by decide +kernel
theorem d_Mod_grey_18 : decode b_Mod_grey 18 = .ok (.getfield 43, 3) := by decide +kernel
theorem d_Mod_grey_21 : decode b_Mod_grey 21 = .ok (.iload_n 2, 1) := by decide +kernel
theorem d_Mod_grey_22 : decode b_Mod_grey 22 = .ok (.iaload, 1) := by decide +kernel
theorem d_Mod_grey_23 : decode b_Mod_grey 23 = .ok (.invokevirtual 91, 3) := by decide +kernel
theorem d_Mod_grey_26 : decode b_Mod_grey 26 = .ok (.iadd, 1) := by decide +kernel
theorem d_Mod_grey_27 : decode b_Mod_grey 27 = .ok (.istore_n 1, 1) := by decide +kernel
theorem d_Mod_grey_28 : decode b_Mod_grey 28 = .ok (.iinc 2 1, 3) := by decide +kernel
theorem d_Mod_grey_31 : decode b_Mod_grey 31 = .ok (.goto (-24), 3) := by decide +kernel
theorem d_Mod_grey_34 : decode b_Mod_grey 34 = .ok (.iload_n 1, 1) := by decide +kernel
theorem d_Mod_grey_35 : decode b_Mod_grey 35 = .ok (.aload_n 0, 1) := by decide +kernel
theorem d_Mod_grey_36 : decode b_Mod_grey 36 = .ok (.getfield 108, 3) := by decide +kernel
theorem d_Mod_grey_39 : decode b_Mod_grey 39 = .ok (.isub, 1) := by decide +kernel
theorem d_Mod_grey_40 : decode b_Mod_grey 40 = .ok (.ireturn, 1) := by decide +kernel
abbrev rm_Mod_grey : Room := { frames := 1, cells := 0, slots := 0, locals := 21 }
set_option maxHeartbeats 4000000 in
set_option maxRecDepth 100000 in
theorem b_Mod_grey_B7 {l : Launch} {dC : Nat → ClassId} {dI : Nat → Nat → Nat} {a : Nat → Nat} {cI cZ : ClassId} {pr : Program} {e : Env} {s : State} {m : MethodId} {args : Array Value} {below : List Frame} {meth : Method} {c : Code} {A : Nat → Prop} {ls : Array Slot} {H : Heap} {locs : List Loc} {s0 : Int32 × Int32 × St} {q : Nat × (Int32 × Int32 × St)} {Q : State → Prop} (C : Cx (dC, dI) clA (tyM cI cZ) SXm pr s m args meth c b_Mod_grey 3 y_Mod_grey.cls A) (h : fMod_grey_B7 s0 = some q) (hl : lv_has ls 3 [(0, .ref (a 0)), (1, .int s0.1), (2, .int s0.2.1)]) (hI : Wi (dC, dI) clA (wM a cI cZ s0.2.2) s A H locs) (kC : q.1 = 1 → ∀ (ls : Array Slot) (H : Heap) (locs : List Loc), lv_has ls 3 [(0, .ref (a 0)), (1, .int q.2.1), (2, .int q.2.2.1)] → Wi (dC, dI) clA (wM a cI cZ q.2.2.2) s A H locs → W pr l e rm_Mod_grey s m args below meth c H locs 0 0 Q (F0 m 7 ls [])) (kX0 : q.1 = 0 → ∀ (ls : Array Slot) (H : Heap) (locs : List Loc), lv_has ls 3 [(0, .ref (a 0)), (1, .int q.2.1), (2, .int q.2.2.1)] → Wi (dC, dI) clA (wM a cI cZ q.2.2.2) s A H locs → W pr l e rm_Mod_grey s m args below meth c H locs 0 0 Q (F0 m 34 ls [])) : W pr l e rm_Mod_grey s m args below meth c H locs 0 0 Q (F0 m 7 ls []) := by
  have hx := C.1
  have hb := C.2.1
  unfold fMod_grey_B7 at h
  refine lv_iload_n hx hb d_Mod_grey_7 rfl (lv_at hl 2 rfl) ?_
  refine lv_aload_n hx hb d_Mod_grey_8 rfl (lv_at hl 0 rfl) ?_
  refine gf_Mod_95 C hI (v := s0.2.2.1 6) rfl d_Mod_grey_9 ?_
  refine lv_icmp_ge (tgt := 34) hx hb d_Mod_grey_12 (by decide) (fun hc => ?_) (fun hc => ?_)
  · replace h := of_pos hc h
    replace h := Option.some.inj h
    subst h
    exact kX0 rfl _ _ _ (lv_sub hl [0, 1, 2] rfl) hI
  · replace h := of_neg hc h
    refine lv_iload_n hx hb d_Mod_grey_15 rfl (lv_at hl 1 rfl) ?_
    refine lv_aload_n hx hb d_Mod_grey_16 rfl (lv_at hl 0 rfl) ?_
    refine lv_aload_n hx hb d_Mod_grey_17 rfl (lv_at hl 0 rfl) ?_
    refine gf_Mod_43 C hI d_Mod_grey_18 ?_
    refine lv_iload_n hx hb d_Mod_grey_21 rfl (lv_at hl 2 rfl) ?_
    obtain ⟨hg22, h⟩ := of_guard h
    refine al_M_11 C hI (f := s0.2.2.2 11) rfl hg22 d_Mod_grey_22 ?_
    obtain ⟨p23, hp23, h⟩ := of_bind h
    refine rb_callI smok C (c_Mod_size hp23) cw_Mod_91 ⟨Nat.le_of_ble_eq_true rfl, Nat.le_of_ble_eq_true rfl⟩ ⟨rfl, rfl⟩ (q0 := 0) (ci := 4) rfl rfl hI ⟨Nat.zero_le _, Nat.zero_le _⟩ (As := [.int ((s0.2.2.2 11) s0.2.1.toNatClampNeg)]) rfl hl.1 (rest := [.int s0.1]) (Nat.le_of_ble_eq_true rfl) rfl d_Mod_grey_23 (fun H locs hI => ?_)
    refine lv_iadd hx hb d_Mod_grey_26 ?_
    refine lv_istore_n (lv' := [(1, .int (s0.1 + p23.1)), (0, .ref (a 0)), (2, .int s0.2.1)]) hx hb d_Mod_grey_27 rfl hl (by decide) rfl (fun ls hl => ?_)
    refine lv_iinc (k := 2) (v := s0.2.1 + 1) (lv' := [(2, .int (s0.2.1 + 1)), (1, .int (s0.1 + p23.1)), (0, .ref (a 0))]) hx hb d_Mod_grey_28 hl rfl rfl (by decide) rfl (fun ls hl => ?_)
    refine lv_goto (tgt := 7) hx hb d_Mod_grey_31 (by decide) ?_
    replace h := Option.some.inj h
    subst h
    exact kC rfl _ _ _ (lv_sub hl [2, 1, 0] rfl) hI
set_option maxHeartbeats 4000000 in
set_option maxRecDepth 100000 in
theorem l_Mod_grey_B7 {l : Launch} {dC : Nat → ClassId} {dI : Nat → Nat → Nat} {a : Nat → Nat} {cI cZ : ClassId} {pr : Program} {e : Env} {s : State} {m : MethodId} {args : Array Value} {below : List Frame} {meth : Method} {c : Code} {A : Nat → Prop} {Q : State → Prop} (C : Cx (dC, dI) clA (tyM cI cZ) SXm pr s m args meth c b_Mod_grey 3 y_Mod_grey.cls A) : ∀ (k : Nat) (s0 : Int32 × Int32 × St) (q : Nat × (Int32 × Int32 × St)) (ls : Array Slot) (H : Heap) (locs : List Loc), rbLoop (fMod_grey_B7) k s0 = some q → lv_has ls 3 [(0, .ref (a 0)), (1, .int s0.1), (2, .int s0.2.1)] → Wi (dC, dI) clA (wM a cI cZ s0.2.2) s A H locs → (q.1 = 0 → ∀ (ls : Array Slot) (H : Heap) (locs : List Loc), lv_has ls 3 [(0, .ref (a 0)), (1, .int q.2.1), (2, .int q.2.2.1)] → Wi (dC, dI) clA (wM a cI cZ q.2.2.2) s A H locs → W pr l e rm_Mod_grey s m args below meth c H locs 0 0 Q (F0 m 34 ls [])) → W pr l e rm_Mod_grey s m args below meth c H locs 0 0 Q (F0 m 7 ls []) := by
  intro k
  induction k with
  | zero => intro s0 q ls H locs h; cases h
  | succ k ih =>
    intro s0 q ls H locs h hl hI kX0
    obtain ⟨q1, hq1, h⟩ := rbLoop_succ h
    by_cases hc : q1.1 = 1
    · replace h := of_pos hc h
      refine b_Mod_grey_B7 C hq1 hl hI (fun _ ls H locs hl hI => ih _ _ _ _ _ h hl hI kX0) (fun hz => absurd (hc.symm.trans hz) (by decide))
    · replace h := of_neg hc h
      cases h
      exact b_Mod_grey_B7 C hq1 hl hI (fun hz => absurd hz hc) kX0
set_option maxHeartbeats 4000000 in
set_option maxRecDepth 100000 in
theorem c_Mod_grey {l : Launch} {dC : Nat → ClassId} {dI : Nat → Nat → Nat} {a : Nat → Nat} {cI cZ : ClassId} {σ : St} {q : Int32 × St} (h : fMod_grey σ = some q) : CI l (dC, dI) clA (tyM cI cZ) SXm (wM a cI cZ σ) (wM a cI cZ q.2) y_Mod_grey b_Mod_grey 3 (some .int) rm_Mod_grey [.ref (a 0)] q.1 := by
  refine CI_of (by decide) (Nat.le_of_ble_eq_true rfl) ?_
  intro pr e s m below meth c A ls C hr hl hI
  have hx := C.1
  have hb := C.2.1
  have hl : lv_has ls 3 [(0, .ref (a 0))] := hl
  unfold fMod_grey at h
  refine lv_iconst (v := 0) hx hb d_Mod_grey_0 (by decide) ?_
  refine lv_istore_n (lv' := [(1, .int 0), (0, .ref (a 0))]) hx hb d_Mod_grey_1 rfl hl (by decide) rfl (fun ls hl => ?_)
  refine lv_aload_n hx hb d_Mod_grey_2 rfl (lv_at hl 1 rfl) ?_
  refine gf_Mod_105 C hI (v := σ.1 7) rfl d_Mod_grey_3 ?_
  refine lv_istore_n (lv' := [(2, .int (σ.1 7)), (1, .int 0), (0, .ref (a 0))]) hx hb d_Mod_grey_6 rfl hl (by decide) rfl (fun ls hl => ?_)
  obtain ⟨q7, hq7, h⟩ := of_bind h
  refine l_Mod_grey_B7 C _ _ _ _ _ _ hq7 (lv_sub hl [2, 1, 0] rfl) hI ?_
  intro _ ls H locs hl hI
  refine lv_iload_n hx hb d_Mod_grey_34 rfl (lv_at hl 1 rfl) ?_
  refine lv_aload_n hx hb d_Mod_grey_35 rfl (lv_at hl 0 rfl) ?_
  refine gf_Mod_108 C hI (v := q7.2.2.2.1 8) rfl d_Mod_grey_36 ?_
  refine lv_isub hx hb d_Mod_grey_39 ?_
  replace h := Option.some.inj h
  subst h
  exact rb_retI C hr hI d_Mod_grey_40
theorem d_Mod_flips_0 : decode b_Mod_flips 0 = .ok (.aload_n 0, 1) := by decide +kernel
theorem d_Mod_flips_1 : decode b_Mod_flips 1 = .ok (.getfield 117, 3) := by decide +kernel
theorem d_Mod_flips_4 : decode b_Mod_flips 4 = .ok (.ireturn, 1) := by decide +kernel
abbrev rm_Mod_flips : Room := { frames := 0, cells := 0, slots := 0, locals := 0 }
set_option maxHeartbeats 4000000 in
set_option maxRecDepth 100000 in
theorem c_Mod_flips {l : Launch} {dC : Nat → ClassId} {dI : Nat → Nat → Nat} {a : Nat → Nat} {cI cZ : ClassId} {σ : St} {q : Int32 × St} (h : fMod_flips σ = some q) : CI l (dC, dI) clA (tyM cI cZ) SXm (wM a cI cZ σ) (wM a cI cZ q.2) y_Mod_flips b_Mod_flips 1 (some .int) rm_Mod_flips [.ref (a 0)] q.1 := by
  refine CI_of (by decide) (Nat.le_of_ble_eq_true rfl) ?_
  intro pr e s m below meth c A ls C hr hl hI
  have hx := C.1
  have hb := C.2.1
  have hl : lv_has ls 1 [(0, .ref (a 0))] := hl
  unfold fMod_flips at h
  refine lv_aload_n hx hb d_Mod_flips_0 rfl (lv_at hl 0 rfl) ?_
  refine gf_Mod_117 C hI (v := σ.1 14) rfl d_Mod_flips_1 ?_
  replace h := Option.some.inj h
  subst h
  exact rb_retI C hr hI d_Mod_flips_4
theorem d_Mod_depth_0 : decode b_Mod_depth 0 = .ok (.aload_n 0, 1) := by decide +kernel
theorem d_Mod_depth_1 : decode b_Mod_depth 1 = .ok (.getfield 53, 3) := by decide +kernel
theorem d_Mod_depth_4 : decode b_Mod_depth 4 = .ok (.iconst 4, 1) := by decide +kernel
theorem d_Mod_depth_5 : decode b_Mod_depth 5 = .ok (.if_icmp .ne 5, 3) := by decide +kernel
theorem d_Mod_depth_8 : decode b_Mod_depth 8 = .ok (.iconst 0, 1) := by decide +kernel
theorem d_Mod_depth_9 : decode b_Mod_depth 9 = .ok (.ireturn, 1) := by decide +kernel
theorem d_Mod_depth_10 : decode b_Mod_depth 10 = .ok (.iconst 1, 1) := by decide +kernel
theorem d_Mod_depth_11 : decode b_Mod_depth 11 = .ok (.istore_n 1, 1) := by decide +kernel
theorem d_Mod_depth_12 : decode b_Mod_depth 12 = .ok (.aload_n 0, 1) := by decide +kernel
theorem d_Mod_depth_13 : decode b_Mod_depth 13 = .ok (.getfield 120, 3) := by decide +kernel
theorem d_Mod_depth_16 : decode b_Mod_depth 16 = .ok (.istore_n 2, 1) := by decide +kernel
theorem d_Mod_depth_17 : decode b_Mod_depth 17 = .ok (.iconst 0, 1) := by decide +kernel
theorem d_Mod_depth_18 : decode b_Mod_depth 18 = .ok (.istore_n 3, 1) := by decide +kernel
theorem d_Mod_depth_19 : decode b_Mod_depth 19 = .ok (.iload_n 3, 1) := by decide +kernel
theorem d_Mod_depth_20 : decode b_Mod_depth 20 = .ok (.sipush 240, 3) := by decide +kernel
theorem d_Mod_depth_23 : decode b_Mod_depth 23 = .ok (.if_icmp .ge 37, 3) := by decide +kernel
theorem d_Mod_depth_26 : decode b_Mod_depth 26 = .ok (.aload_n 0, 1) := by decide +kernel
theorem d_Mod_depth_27 : decode b_Mod_depth 27 = .ok (.getfield 37, 3) := by decide +kernel
theorem d_Mod_depth_30 : decode b_Mod_depth 30 = .ok (.iconst 4, 1) := by decide +kernel
theorem d_Mod_depth_31 : decode b_Mod_depth 31 = .ok (.iload_n 2, 1) := by decide +kernel
theorem d_Mod_depth_32 : decode b_Mod_depth 32 = .ok (.imul, 1) := by decide +kernel
theorem d_Mod_depth_33 : decode b_Mod_depth 33 = .ok (.iconst 3, 1) := by decide +kernel
theorem d_Mod_depth_34 : decode b_Mod_depth 34 = .ok (.iadd, 1) := by decide +kernel
theorem d_Mod_depth_35 : decode b_Mod_depth 35 = .ok (.iaload, 1) := by decide +kernel
theorem d_Mod_depth_36 : decode b_Mod_depth 36 = .ok (.iconst (-1), 1) := by decide +kernel
theorem d_Mod_depth_37 : decode b_Mod_depth 37 = .ok (.if_icmp .eq 23, 3) := by decide +kernel
theorem d_Mod_depth_40 : decode b_Mod_depth 40 = .ok (.aload_n 0, 1) := by decide +kernel
theorem d_Mod_depth_41 : decode b_Mod_depth 41 = .ok (.getfield 37, 3) := by decide +kernel
theorem d_Mod_depth_44 : decode b_Mod_depth 44 = .ok (.iconst 4, 1) := by decide +kernel
theorem d_Mod_depth_45 : decode b_Mod_depth 45 = .ok (.iload_n 2, 1) := by decide +kernel
theorem d_Mod_depth_46 : decode b_Mod_depth 46 = .ok (.imul, 1) := by decide +kernel
theorem d_Mod_depth_47 : decode b_Mod_depth 47 = .ok (.iconst 3, 1) := by decide +kernel
theorem d_Mod_depth_48 : decode b_Mod_depth 48 = .ok (.iadd, 1) := by decide +kernel
theorem d_Mod_depth_49 : decode b_Mod_depth 49 = .ok (.iaload, 1) := by decide +kernel
theorem d_Mod_depth_50 : decode b_Mod_depth 50 = .ok (.istore_n 2, 1) := by decide +kernel
theorem d_Mod_depth_51 : decode b_Mod_depth 51 = .ok (.iinc 1 1, 3) := by decide +kernel
theorem d_Mod_depth_54 : decode b_Mod_depth 54 = .ok (.iinc 3 1, 3) := by decide +kernel
theorem d_Mod_depth_57 : decode b_Mod_depth 57 = .ok (.goto (-38), 3) := by decide +kernel
theorem d_Mod_depth_60 : decode b_Mod_depth 60 = .ok (.iload_n 1, 1) := by decide +kernel
theorem d_Mod_depth_61 : decode b_Mod_depth 61 = .ok (.ireturn, 1) := by decide +kernel
abbrev rm_Mod_depth : Room := { frames := 0, cells := 0, slots := 0, locals := 0 }
set_option maxHeartbeats 4000000 in
set_option maxRecDepth 100000 in
theorem b_Mod_depth_B19 {l : Launch} {dC : Nat → ClassId} {dI : Nat → Nat → Nat} {a : Nat → Nat} {cI cZ : ClassId} {pr : Program} {e : Env} {s : State} {m : MethodId} {args : Array Value} {below : List Frame} {meth : Method} {c : Code} {A : Nat → Prop} {ls : Array Slot} {H : Heap} {locs : List Loc} {s0 : Int32 × Int32 × Int32 × St} {q : Nat × (Int32 × Int32 × Int32 × St)} {Q : State → Prop} (C : Cx (dC, dI) clA (tyM cI cZ) SXm pr s m args meth c b_Mod_depth 4 y_Mod_depth.cls A) (h : fMod_depth_B19 s0 = some q) (hl : lv_has ls 4 [(0, .ref (a 0)), (1, .int s0.1), (2, .int s0.2.1), (3, .int s0.2.2.1)]) (hI : Wi (dC, dI) clA (wM a cI cZ s0.2.2.2) s A H locs) (kC : q.1 = 1 → ∀ (ls : Array Slot) (H : Heap) (locs : List Loc), lv_has ls 4 [(0, .ref (a 0)), (1, .int q.2.1), (2, .int q.2.2.1), (3, .int q.2.2.2.1)] → Wi (dC, dI) clA (wM a cI cZ q.2.2.2.2) s A H locs → W pr l e rm_Mod_depth s m args below meth c H locs 0 0 Q (F0 m 19 ls [])) (kX0 : q.1 = 0 → ∀ (ls : Array Slot) (H : Heap) (locs : List Loc), lv_has ls 4 [(0, .ref (a 0)), (1, .int q.2.1), (2, .int q.2.2.1), (3, .int q.2.2.2.1)] → Wi (dC, dI) clA (wM a cI cZ q.2.2.2.2) s A H locs → W pr l e rm_Mod_depth s m args below meth c H locs 0 0 Q (F0 m 60 ls [])) : W pr l e rm_Mod_depth s m args below meth c H locs 0 0 Q (F0 m 19 ls []) := by
  have hx := C.1
  have hb := C.2.1
  unfold fMod_depth_B19 at h
  refine lv_iload_n hx hb d_Mod_depth_19 rfl (lv_at hl 3 rfl) ?_
  refine lv_sipush (v := 240) hx hb d_Mod_depth_20 (by decide) ?_
  refine lv_icmp_ge (tgt := 60) hx hb d_Mod_depth_23 (by decide) (fun hc => ?_) (fun hc => ?_)
  · replace h := of_pos hc h
    replace h := Option.some.inj h
    subst h
    exact kX0 rfl _ _ _ (lv_sub hl [0, 1, 2, 3] rfl) hI
  · replace h := of_neg hc h
    refine lv_aload_n hx hb d_Mod_depth_26 rfl (lv_at hl 0 rfl) ?_
    refine gf_Mod_37 C hI d_Mod_depth_27 ?_
    refine lv_iconst (v := 4) hx hb d_Mod_depth_30 (by decide) ?_
    refine lv_iload_n hx hb d_Mod_depth_31 rfl (lv_at hl 2 rfl) ?_
    refine lv_imul hx hb d_Mod_depth_32 ?_
    refine lv_iconst (v := 3) hx hb d_Mod_depth_33 (by decide) ?_
    refine lv_iadd hx hb d_Mod_depth_34 ?_
    obtain ⟨hg35, h⟩ := of_guard h
    refine al_M_9 C hI (f := s0.2.2.2.2 9) rfl hg35 d_Mod_depth_35 ?_
    refine lv_iconst (v := (-1)) hx hb d_Mod_depth_36 (by decide) ?_
    refine lv_icmp_eq (tgt := 60) hx hb d_Mod_depth_37 (by decide) (fun hc => ?_) (fun hc => ?_)
    · replace h := of_pos hc h
      replace h := Option.some.inj h
      subst h
      exact kX0 rfl _ _ _ (lv_sub hl [0, 1, 2, 3] rfl) hI
    · replace h := of_neg hc h
      refine lv_aload_n hx hb d_Mod_depth_40 rfl (lv_at hl 0 rfl) ?_
      refine gf_Mod_37 C hI d_Mod_depth_41 ?_
      refine lv_iconst (v := 4) hx hb d_Mod_depth_44 (by decide) ?_
      refine lv_iload_n hx hb d_Mod_depth_45 rfl (lv_at hl 2 rfl) ?_
      refine lv_imul hx hb d_Mod_depth_46 ?_
      refine lv_iconst (v := 3) hx hb d_Mod_depth_47 (by decide) ?_
      refine lv_iadd hx hb d_Mod_depth_48 ?_
      obtain ⟨hg49, h⟩ := of_guard h
      refine al_M_9 C hI (f := s0.2.2.2.2 9) rfl hg49 d_Mod_depth_49 ?_
      refine lv_istore_n (lv' := [(2, .int ((s0.2.2.2.2 9) (((4 : Int32) * s0.2.1) + 3).toNatClampNeg)), (0, .ref (a 0)), (1, .int s0.1), (3, .int s0.2.2.1)]) hx hb d_Mod_depth_50 rfl hl (by decide) rfl (fun ls hl => ?_)
      refine lv_iinc (k := 2) (v := s0.1 + 1) (lv' := [(1, .int (s0.1 + 1)), (2, .int ((s0.2.2.2.2 9) (((4 : Int32) * s0.2.1) + 3).toNatClampNeg)), (0, .ref (a 0)), (3, .int s0.2.2.1)]) hx hb d_Mod_depth_51 hl rfl rfl (by decide) rfl (fun ls hl => ?_)
      refine lv_iinc (k := 3) (v := s0.2.2.1 + 1) (lv' := [(3, .int (s0.2.2.1 + 1)), (1, .int (s0.1 + 1)), (2, .int ((s0.2.2.2.2 9) (((4 : Int32) * s0.2.1) + 3).toNatClampNeg)), (0, .ref (a 0))]) hx hb d_Mod_depth_54 hl rfl rfl (by decide) rfl (fun ls hl => ?_)
      refine lv_goto (tgt := 19) hx hb d_Mod_depth_57 (by decide) ?_
      replace h := Option.some.inj h
      subst h
      exact kC rfl _ _ _ (lv_sub hl [3, 1, 2, 0] rfl) hI
set_option maxHeartbeats 4000000 in
set_option maxRecDepth 100000 in
theorem l_Mod_depth_B19 {l : Launch} {dC : Nat → ClassId} {dI : Nat → Nat → Nat} {a : Nat → Nat} {cI cZ : ClassId} {pr : Program} {e : Env} {s : State} {m : MethodId} {args : Array Value} {below : List Frame} {meth : Method} {c : Code} {A : Nat → Prop} {Q : State → Prop} (C : Cx (dC, dI) clA (tyM cI cZ) SXm pr s m args meth c b_Mod_depth 4 y_Mod_depth.cls A) : ∀ (k : Nat) (s0 : Int32 × Int32 × Int32 × St) (q : Nat × (Int32 × Int32 × Int32 × St)) (ls : Array Slot) (H : Heap) (locs : List Loc), rbLoop (fMod_depth_B19) k s0 = some q → lv_has ls 4 [(0, .ref (a 0)), (1, .int s0.1), (2, .int s0.2.1), (3, .int s0.2.2.1)] → Wi (dC, dI) clA (wM a cI cZ s0.2.2.2) s A H locs → (q.1 = 0 → ∀ (ls : Array Slot) (H : Heap) (locs : List Loc), lv_has ls 4 [(0, .ref (a 0)), (1, .int q.2.1), (2, .int q.2.2.1), (3, .int q.2.2.2.1)] → Wi (dC, dI) clA (wM a cI cZ q.2.2.2.2) s A H locs → W pr l e rm_Mod_depth s m args below meth c H locs 0 0 Q (F0 m 60 ls [])) → W pr l e rm_Mod_depth s m args below meth c H locs 0 0 Q (F0 m 19 ls []) := by
  intro k
  induction k with
  | zero => intro s0 q ls H locs h; cases h
  | succ k ih =>
    intro s0 q ls H locs h hl hI kX0
    obtain ⟨q1, hq1, h⟩ := rbLoop_succ h
    by_cases hc : q1.1 = 1
    · replace h := of_pos hc h
      refine b_Mod_depth_B19 C hq1 hl hI (fun _ ls H locs hl hI => ih _ _ _ _ _ h hl hI kX0) (fun hz => absurd (hc.symm.trans hz) (by decide))
    · replace h := of_neg hc h
      cases h
      exact b_Mod_depth_B19 C hq1 hl hI (fun hz => absurd hz hc) kX0
set_option maxHeartbeats 4000000 in
set_option maxRecDepth 100000 in
theorem c_Mod_depth {l : Launch} {dC : Nat → ClassId} {dI : Nat → Nat → Nat} {a : Nat → Nat} {cI cZ : ClassId} {σ : St} {q : Int32 × St} (h : fMod_depth σ = some q) : CI l (dC, dI) clA (tyM cI cZ) SXm (wM a cI cZ σ) (wM a cI cZ q.2) y_Mod_depth b_Mod_depth 4 (some .int) rm_Mod_depth [.ref (a 0)] q.1 := by
  refine CI_of (by decide) (Nat.le_of_ble_eq_true rfl) ?_
  intro pr e s m below meth c A ls C hr hl hI
  have hx := C.1
  have hb := C.2.1
  have hl : lv_has ls 4 [(0, .ref (a 0))] := hl
  unfold fMod_depth at h
  refine lv_aload_n hx hb d_Mod_depth_0 rfl (lv_at hl 0 rfl) ?_
  refine gf_Mod_53 C hI (v := σ.1 12) rfl d_Mod_depth_1 ?_
  refine lv_iconst (v := 4) hx hb d_Mod_depth_4 (by decide) ?_
  refine lv_icmp_ne (tgt := 10) hx hb d_Mod_depth_5 (by decide) (fun hc => ?_) (fun hc => ?_)
  · replace h := of_neg hc h
    refine lv_iconst (v := 1) hx hb d_Mod_depth_10 (by decide) ?_
    refine lv_istore_n (lv' := [(1, .int 1), (0, .ref (a 0))]) hx hb d_Mod_depth_11 rfl hl (by decide) rfl (fun ls hl => ?_)
    refine lv_aload_n hx hb d_Mod_depth_12 rfl (lv_at hl 1 rfl) ?_
    refine gf_Mod_120 C hI (v := σ.1 9) rfl d_Mod_depth_13 ?_
    refine lv_istore_n (lv' := [(2, .int (σ.1 9)), (1, .int 1), (0, .ref (a 0))]) hx hb d_Mod_depth_16 rfl hl (by decide) rfl (fun ls hl => ?_)
    refine lv_iconst (v := 0) hx hb d_Mod_depth_17 (by decide) ?_
    refine lv_istore_n (lv' := [(3, .int 0), (2, .int (σ.1 9)), (1, .int 1), (0, .ref (a 0))]) hx hb d_Mod_depth_18 rfl hl (by decide) rfl (fun ls hl => ?_)
    obtain ⟨q19, hq19, h⟩ := of_bind h
    refine l_Mod_depth_B19 C _ _ _ _ _ _ hq19 (lv_sub hl [3, 2, 1, 0] rfl) hI ?_
    intro _ ls H locs hl hI
    refine lv_iload_n hx hb d_Mod_depth_60 rfl (lv_at hl 1 rfl) ?_
    replace h := Option.some.inj h
    subst h
    exact rb_retI C hr hI d_Mod_depth_61
  · replace h := of_pos hc h
    refine lv_iconst (v := 0) hx hb d_Mod_depth_8 (by decide) ?_
    replace h := Option.some.inj h
    subst h
    exact rb_retI C hr hI d_Mod_depth_9
theorem d_Mod_live_0 : decode b_Mod_live 0 = .ok (.aload_n 0, 1) := by decide +kernel
theorem d_Mod_live_1 : decode b_Mod_live 1 = .ok (.getfield 53, 3) := by decide +kernel
theorem d_Mod_live_4 : decode b_Mod_live 4 = .ok (.iconst 4, 1) := by decide +kernel
theorem d_Mod_live_5 : decode b_Mod_live 5 = .ok (.if_icmp .ne 5, 3) := by decide +kernel
theorem d_Mod_live_8 : decode b_Mod_live 8 = .ok (.iconst 0, 1) := by decide +kernel
theorem d_Mod_live_9 : decode b_Mod_live 9 = .ok (.ireturn, 1) := by decide +kernel
theorem d_Mod_live_10 : decode b_Mod_live 10 = .ok (.iconst 0, 1) := by decide +kernel
theorem d_Mod_live_11 : decode b_Mod_live 11 = .ok (.istore_n 1, 1) := by decide +kernel
theorem d_Mod_live_12 : decode b_Mod_live 12 = .ok (.iload_n 1, 1) := by decide +kernel
theorem d_Mod_live_13 : decode b_Mod_live 13 = .ok (.sipush 240, 3) := by decide +kernel
theorem d_Mod_live_16 : decode b_Mod_live 16 = .ok (.if_icmp .ge 16, 3) := by decide +kernel
theorem d_Mod_live_19 : decode b_Mod_live 19 = .ok (.aload_n 0, 1) := by decide +kernel
theorem d_Mod_live_20 : decode b_Mod_live 20 = .ok (.getfield 49, 3) := by decide +kernel
theorem d_Mod_live_23 : decode b_Mod_live 23 = .ok (.iload_n 1, 1) := by decide +kernel
theorem d_Mod_live_24 : decode b_Mod_live 24 = .ok (.iconst 0, 1) := by decide +kernel
theorem d_Mod_live_25 : decode b_Mod_live 25 = .ok (.bastore, 1) := by decide +kernel
theorem d_Mod_live_26 : decode b_Mod_live 26 = .ok (.iinc 1 1, 3) := by decide +kernel
theorem d_Mod_live_29 : decode b_Mod_live 29 = .ok (.goto (-17), 3) := by decide +kernel
theorem d_Mod_live_32 : decode b_Mod_live 32 = .ok (.iconst 1, 1) := by decide +kernel
theorem d_Mod_live_33 : decode b_Mod_live 33 = .ok (.istore_n 1, 1) := by decide +kernel
theorem d_Mod_live_34 : decode b_Mod_live 34 = .ok (.iconst 0, 1) := by decide +kernel
theorem d_Mod_live_35 : decode b_Mod_live 35 = .ok (.istore_n 2, 1) := by decide +kernel
theorem d_Mod_live_36 : decode b_Mod_live 36 = .ok (.aload_n 0, 1) := by decide +kernel
theorem d_Mod_live_37 : decode b_Mod_live 37 = .ok (.getfield 46, 3) := by decide +kernel
theorem d_Mod_live_40 : decode b_Mod_live 40 = .ok (.iconst 0, 1) := by decide +kernel
theorem d_Mod_live_41 : decode b_Mod_live 41 = .ok (.aload_n 0, 1) := by decide +kernel
theorem d_Mod_live_42 : decode b_Mod_live 42 = .ok (.getfield 120, 3) := by decide +kernel
theorem d_Mod_live_45 : decode b_Mod_live 45 = .ok (.iastore, 1) := by decide +kernel
theorem d_Mod_live_46 : decode b_Mod_live 46 = .ok (.aload_n 0, 1) := by decide +kernel
theorem d_Mod_live_47 : decode b_Mod_live 47 = .ok (.getfield 49, 3) := by decide +kernel
theorem d_Mod_live_50 : decode b_Mod_live 50 = .ok (.aload_n 0, 1) := by decide +kernel
theorem d_Mod_live_51 : decode b_Mod_live 51 = .ok (.getfield 120, 3) := by decide +kernel
theorem d_Mod_live_54 : decode b_Mod_live 54 = .ok (.iconst 1, 1) := by decide +kernel
theorem d_Mod_live_55 : decode b_Mod_live 55 = .ok (.bastore, 1) := by decide +kernel
theorem d_Mod_live_56 : decode b_Mod_live 56 = .ok (.iload_n 1, 1) := by decide +kernel
theorem d_Mod_live_57 : decode b_Mod_live 57 = .ok (.ifCond .le 104, 3) := by decide +kernel
theorem d_Mod_live_60 : decode b_Mod_live 60 = .ok (.iinc 1 (-1), 3) := by decide +kernel
theorem d_Mod_live_63 : decode b_Mod_live 63 = .ok (.aload_n 0, 1) := by decide +kernel
theorem d_Mod_live_64 : decode b_Mod_live 64 = .ok (.getfield 46, 3) := by decide +kernel
theorem d_Mod_live_67 : decode b_Mod_live 67 = .ok (.iload_n 1, 1) := by decide +kernel
theorem d_Mod_live_68 : decode b_Mod_live 68 = .ok (.iaload, 1) := by decide +kernel
theorem d_Mod_live_69 : decode b_Mod_live 69 = .ok (.istore_n 3, 1) := by decide +kernel
theorem d_Mod_live_70 : decode b_Mod_live 70 = .ok (.iload_n 2, 1) := by decide +kernel
theorem d_Mod_live_71 : decode b_Mod_live 71 = .ok (.aload_n 0, 1) := by decide +kernel
theorem d_Mod_live_72 : decode b_Mod_live 72 = .ok (.iload_n 3, 1) := by decide +kernel
theorem d_Mod_live_73 : decode b_Mod_live 73 = .ok (.invokevirtual 91, 3) := by decide +kernel
theorem d_Mod_live_76 : decode b_Mod_live 76 = .ok (.iadd, 1) := by decide +kernel
theorem d_Mod_live_77 : decode b_Mod_live 77 = .ok (.istore_n 2, 1) := by decide +kernel
theorem d_Mod_live_78 : decode b_Mod_live 78 = .ok (.iconst 4, 1) := by decide +kernel
theorem d_Mod_live_79 : decode b_Mod_live 79 = .ok (.iload_n 3, 1) := by decide +kernel
theorem d_Mod_live_80 : decode b_Mod_live 80 = .ok (.imul, 1) := by decide +kernel
theorem d_Mod_live_81 : decode b_Mod_live 81 = .ok (.istore 4, 2) := by decide +kernel
theorem d_Mod_live_83 : decode b_Mod_live 83 = .ok (.iload 4, 2) := by decide +kernel
theorem d_Mod_live_85 : decode b_Mod_live 85 = .ok (.iconst 4, 1) := by decide +kernel
theorem d_Mod_live_86 : decode b_Mod_live 86 = .ok (.iload_n 3, 1) := by decide +kernel
theorem d_Mod_live_87 : decode b_Mod_live 87 = .ok (.imul, 1) := by decide +kernel
theorem d_Mod_live_88 : decode b_Mod_live 88 = .ok (.aload_n 0, 1) := by decide +kernel
theorem d_Mod_live_89 : decode b_Mod_live 89 = .ok (.iload_n 3, 1) := by decide +kernel
theorem d_Mod_live_90 : decode b_Mod_live 90 = .ok (.invokevirtual 111, 3) := by decide +kernel
theorem d_Mod_live_93 : decode b_Mod_live 93 = .ok (.iadd, 1) := by decide +kernel
theorem d_Mod_live_94 : decode b_Mod_live 94 = .ok (.if_icmp .ge 64, 3) := by decide +kernel
theorem d_Mod_live_97 : decode b_Mod_live 97 = .ok (.aload_n 0, 1) := by decide +kernel
theorem d_Mod_live_98 : decode b_Mod_live 98 = .ok (.getfield 37, 3) := by decide +kernel
theorem d_Mod_live_101 : decode b_Mod_live 101 = .ok (.iload 4, 2) := by decide +kernel
theorem d_Mod_live_103 : decode b_Mod_live 103 = .ok (.iaload, 1) := by decide +kernel
theorem d_Mod_live_104 : decode b_Mod_live 104 = .ok (.iconst (-1), 1) := by decide +kernel
theorem d_Mod_live_105 : decode b_Mod_live 105 = .ok (.if_icmp .eq 47, 3) := by decide +kernel
theorem d_Mod_live_108 : decode b_Mod_live 108 = .ok (.aload_n 0, 1) := by decide +kernel
theorem d_Mod_live_109 : decode b_Mod_live 109 = .ok (.getfield 49, 3) := by decide +kernel
theorem d_Mod_live_112 : decode b_Mod_live 112 = .ok (.aload_n 0, 1) := by decide +kernel
theorem d_Mod_live_113 : decode b_Mod_live 113 = .ok (.getfield 37, 3) := by decide +kernel
theorem d_Mod_live_116 : decode b_Mod_live 116 = .ok (.iload 4, 2) := by decide +kernel
theorem d_Mod_live_118 : decode b_Mod_live 118 = .ok (.iaload, 1) := by decide +kernel
theorem d_Mod_live_119 : decode b_Mod_live 119 = .ok (.baload, 1) := by decide +kernel
theorem d_Mod_live_120 : decode b_Mod_live 120 = .ok (.ifCond .ne 32, 3) := by decide +kernel
theorem d_Mod_live_123 : decode b_Mod_live 123 = .ok (.aload_n 0, 1) := by decide +kernel
theorem d_Mod_live_124 : decode b_Mod_live 124 = .ok (.getfield 49, 3) := by decide +kernel
theorem d_Mod_live_127 : decode b_Mod_live 127 = .ok (.aload_n 0, 1) := by decide +kernel
theorem d_Mod_live_128 : decode b_Mod_live 128 = .ok (.getfield 37, 3) := by decide +kernel
theorem d_Mod_live_131 : decode b_Mod_live 131 = .ok (.iload 4, 2) := by decide +kernel
theorem d_Mod_live_133 : decode b_Mod_live 133 = .ok (.iaload, 1) := by decide +kernel
theorem d_Mod_live_134 : decode b_Mod_live 134 = .ok (.iconst 1, 1) := by decide +kernel
theorem d_Mod_live_135 : decode b_Mod_live 135 = .ok (.bastore, 1) := by decide +kernel
theorem d_Mod_live_136 : decode b_Mod_live 136 = .ok (.aload_n 0, 1) := by decide +kernel
theorem d_Mod_live_137 : decode b_Mod_live 137 = .ok (.getfield 46, 3) := by decide +kernel
theorem d_Mod_live_140 : decode b_Mod_live 140 = .ok (.iload_n 1, 1) := by decide +kernel
theorem d_Mod_live_141 : decode b_Mod_live 141 = .ok (.aload_n 0, 1) := by decide +kernel
theorem d_Mod_live_142 : decode b_Mod_live 142 = .ok (.getfield 37, 3) := by decide +kernel
theorem d_Mod_live_145 : decode b_Mod_live 145 = .ok (.iload 4, 2) := by decide +kernel
theorem d_Mod_live_147 : decode b_Mod_live 147 = .ok (.iaload, 1) := by decide +kernel
theorem d_Mod_live_148 : decode b_Mod_live 148 = .ok (.iastore, 1) := by decide +kernel
theorem d_Mod_live_149 : decode b_Mod_live 149 = .ok (.iinc 1 1, 3) := by decide +kernel
theorem d_Mod_live_152 : decode b_Mod_live 152 = .ok (.iinc 4 1, 3) := by decide +kernel
theorem d_Mod_live_155 : decode b_Mod_live 155 = .ok (.goto (-72), 3) := by decide +kernel
theorem d_Mod_live_158 : decode b_Mod_live 158 = .ok (.goto (-102), 3) := by decide +kernel
theorem d_Mod_live_161 : decode b_Mod_live 161 = .ok (.iload_n 2, 1) := by decide +kernel
theorem d_Mod_live_162 : decode b_Mod_live 162 = .ok (.ireturn, 1) := by decide +kernel
abbrev rm_Mod_live : Room := { frames := 1, cells := 0, slots := 0, locals := 21 }
set_option maxHeartbeats 4000000 in
set_option maxRecDepth 100000 in
theorem b_Mod_live_B12 {l : Launch} {dC : Nat → ClassId} {dI : Nat → Nat → Nat} {a : Nat → Nat} {cI cZ : ClassId} {pr : Program} {e : Env} {s : State} {m : MethodId} {args : Array Value} {below : List Frame} {meth : Method} {c : Code} {A : Nat → Prop} {ls : Array Slot} {H : Heap} {locs : List Loc} {s0 : Int32 × St} {q : Nat × (Int32 × St)} {Q : State → Prop} (C : Cx (dC, dI) clA (tyM cI cZ) SXm pr s m args meth c b_Mod_live 5 y_Mod_live.cls A) (h : fMod_live_B12 s0 = some q) (hl : lv_has ls 5 [(0, .ref (a 0)), (1, .int s0.1)]) (hI : Wi (dC, dI) clA (wM a cI cZ s0.2) s A H locs) (kC : q.1 = 1 → ∀ (ls : Array Slot) (H : Heap) (locs : List Loc), lv_has ls 5 [(0, .ref (a 0)), (1, .int q.2.1)] → Wi (dC, dI) clA (wM a cI cZ q.2.2) s A H locs → W pr l e rm_Mod_live s m args below meth c H locs 0 0 Q (F0 m 12 ls [])) (kX0 : q.1 = 0 → ∀ (ls : Array Slot) (H : Heap) (locs : List Loc), lv_has ls 5 [(0, .ref (a 0)), (1, .int q.2.1)] → Wi (dC, dI) clA (wM a cI cZ q.2.2) s A H locs → W pr l e rm_Mod_live s m args below meth c H locs 0 0 Q (F0 m 32 ls [])) : W pr l e rm_Mod_live s m args below meth c H locs 0 0 Q (F0 m 12 ls []) := by
  have hx := C.1
  have hb := C.2.1
  unfold fMod_live_B12 at h
  refine lv_iload_n hx hb d_Mod_live_12 rfl (lv_at hl 1 rfl) ?_
  refine lv_sipush (v := 240) hx hb d_Mod_live_13 (by decide) ?_
  refine lv_icmp_ge (tgt := 32) hx hb d_Mod_live_16 (by decide) (fun hc => ?_) (fun hc => ?_)
  · replace h := of_pos hc h
    replace h := Option.some.inj h
    subst h
    exact kX0 rfl _ _ _ (lv_sub hl [0, 1] rfl) hI
  · replace h := of_neg hc h
    refine lv_aload_n hx hb d_Mod_live_19 rfl (lv_at hl 0 rfl) ?_
    refine gf_Mod_49 C hI d_Mod_live_20 ?_
    refine lv_iload_n hx hb d_Mod_live_23 rfl (lv_at hl 1 rfl) ?_
    refine lv_iconst (v := 0) hx hb d_Mod_live_24 (by decide) ?_
    obtain ⟨hg25, h⟩ := of_guard h
    refine as_M_13 C hI (σ' := (s0.2.1, va_up s0.2.2 13 (upd (s0.2.2 13) s0.1.toNatClampNeg 0))) rfl hg25 (by decide) d_Mod_live_25 (fun H locs hI => ?_)
    refine lv_iinc (k := 1) (v := s0.1 + 1) (lv' := [(1, .int (s0.1 + 1)), (0, .ref (a 0))]) hx hb d_Mod_live_26 hl rfl rfl (by decide) rfl (fun ls hl => ?_)
    refine lv_goto (tgt := 12) hx hb d_Mod_live_29 (by decide) ?_
    replace h := Option.some.inj h
    subst h
    exact kC rfl _ _ _ (lv_sub hl [1, 0] rfl) hI
set_option maxHeartbeats 4000000 in
set_option maxRecDepth 100000 in
theorem l_Mod_live_B12 {l : Launch} {dC : Nat → ClassId} {dI : Nat → Nat → Nat} {a : Nat → Nat} {cI cZ : ClassId} {pr : Program} {e : Env} {s : State} {m : MethodId} {args : Array Value} {below : List Frame} {meth : Method} {c : Code} {A : Nat → Prop} {Q : State → Prop} (C : Cx (dC, dI) clA (tyM cI cZ) SXm pr s m args meth c b_Mod_live 5 y_Mod_live.cls A) : ∀ (k : Nat) (s0 : Int32 × St) (q : Nat × (Int32 × St)) (ls : Array Slot) (H : Heap) (locs : List Loc), rbLoop (fMod_live_B12) k s0 = some q → lv_has ls 5 [(0, .ref (a 0)), (1, .int s0.1)] → Wi (dC, dI) clA (wM a cI cZ s0.2) s A H locs → (q.1 = 0 → ∀ (ls : Array Slot) (H : Heap) (locs : List Loc), lv_has ls 5 [(0, .ref (a 0)), (1, .int q.2.1)] → Wi (dC, dI) clA (wM a cI cZ q.2.2) s A H locs → W pr l e rm_Mod_live s m args below meth c H locs 0 0 Q (F0 m 32 ls [])) → W pr l e rm_Mod_live s m args below meth c H locs 0 0 Q (F0 m 12 ls []) := by
  intro k
  induction k with
  | zero => intro s0 q ls H locs h; cases h
  | succ k ih =>
    intro s0 q ls H locs h hl hI kX0
    obtain ⟨q1, hq1, h⟩ := rbLoop_succ h
    by_cases hc : q1.1 = 1
    · replace h := of_pos hc h
      refine b_Mod_live_B12 C hq1 hl hI (fun _ ls H locs hl hI => ih _ _ _ _ _ h hl hI kX0) (fun hz => absurd (hc.symm.trans hz) (by decide))
    · replace h := of_neg hc h
      cases h
      exact b_Mod_live_B12 C hq1 hl hI (fun hz => absurd hz hc) kX0
set_option maxHeartbeats 4000000 in
set_option maxRecDepth 100000 in
theorem j_Mod_live_B83_J152 {l : Launch} {dC : Nat → ClassId} {dI : Nat → Nat → Nat} {a : Nat → Nat} {cI cZ : ClassId} {pr : Program} {e : Env} {s : State} {m : MethodId} {args : Array Value} {below : List Frame} {meth : Method} {c : Code} {A : Nat → Prop} {ls : Array Slot} {H : Heap} {locs : List Loc} {σ : St} {x1 x2 x3 x4 : Int32} {q : Nat × (Int32 × Int32 × St)} {Q : State → Prop} (C : Cx (dC, dI) clA (tyM cI cZ) SXm pr s m args meth c b_Mod_live 5 y_Mod_live.cls A) (h : fMod_live_B83_J152 σ x1 x2 x3 x4 = some q) (hl : lv_has ls 5 [(0, .ref (a 0)), (1, .int x1), (2, .int x2), (3, .int x3), (4, .int x4)]) (hI : Wi (dC, dI) clA (wM a cI cZ σ) s A H locs) (kC : q.1 = 1 → ∀ (ls : Array Slot) (H : Heap) (locs : List Loc), lv_has ls 5 [(0, .ref (a 0)), (1, .int q.2.1), (2, .int x2), (3, .int x3), (4, .int q.2.2.1)] → Wi (dC, dI) clA (wM a cI cZ q.2.2.2) s A H locs → W pr l e rm_Mod_live s m args below meth c H locs 0 0 Q (F0 m 83 ls [])) (kX0 : q.1 = 0 → ∀ (ls : Array Slot) (H : Heap) (locs : List Loc), lv_has ls 5 [(0, .ref (a 0)), (1, .int q.2.1), (2, .int x2), (3, .int x3), (4, .int q.2.2.1)] → Wi (dC, dI) clA (wM a cI cZ q.2.2.2) s A H locs → W pr l e rm_Mod_live s m args below meth c H locs 0 0 Q (F0 m 158 ls [])) : W pr l e rm_Mod_live s m args below meth c H locs 0 0 Q (F0 m 152 ls []) := by
  have hx := C.1
  have hb := C.2.1
  unfold fMod_live_B83_J152 at h
  refine lv_iinc (k := 4) (v := x4 + 1) (lv' := [(4, .int (x4 + 1)), (0, .ref (a 0)), (1, .int x1), (2, .int x2), (3, .int x3)]) hx hb d_Mod_live_152 hl rfl rfl (by decide) rfl (fun ls hl => ?_)
  refine lv_goto (tgt := 83) hx hb d_Mod_live_155 (by decide) ?_
  replace h := Option.some.inj h
  subst h
  exact kC rfl _ _ _ (lv_sub hl [1, 2, 3, 4, 0] rfl) hI
set_option maxHeartbeats 4000000 in
set_option maxRecDepth 100000 in
theorem b_Mod_live_B83 {l : Launch} {dC : Nat → ClassId} {dI : Nat → Nat → Nat} {a : Nat → Nat} {cI cZ : ClassId} {pr : Program} {e : Env} {s : State} {m : MethodId} {args : Array Value} {below : List Frame} {meth : Method} {c : Code} {A : Nat → Prop} {ls : Array Slot} {H : Heap} {locs : List Loc} {x2 x3 : Int32} {s0 : Int32 × Int32 × St} {q : Nat × (Int32 × Int32 × St)} {Q : State → Prop} (C : Cx (dC, dI) clA (tyM cI cZ) SXm pr s m args meth c b_Mod_live 5 y_Mod_live.cls A) (h : fMod_live_B83 x2 x3 s0 = some q) (hl : lv_has ls 5 [(0, .ref (a 0)), (1, .int s0.1), (2, .int x2), (3, .int x3), (4, .int s0.2.1)]) (hI : Wi (dC, dI) clA (wM a cI cZ s0.2.2) s A H locs) (kC : q.1 = 1 → ∀ (ls : Array Slot) (H : Heap) (locs : List Loc), lv_has ls 5 [(0, .ref (a 0)), (1, .int q.2.1), (2, .int x2), (3, .int x3), (4, .int q.2.2.1)] → Wi (dC, dI) clA (wM a cI cZ q.2.2.2) s A H locs → W pr l e rm_Mod_live s m args below meth c H locs 0 0 Q (F0 m 83 ls [])) (kX0 : q.1 = 0 → ∀ (ls : Array Slot) (H : Heap) (locs : List Loc), lv_has ls 5 [(0, .ref (a 0)), (1, .int q.2.1), (2, .int x2), (3, .int x3), (4, .int q.2.2.1)] → Wi (dC, dI) clA (wM a cI cZ q.2.2.2) s A H locs → W pr l e rm_Mod_live s m args below meth c H locs 0 0 Q (F0 m 158 ls [])) : W pr l e rm_Mod_live s m args below meth c H locs 0 0 Q (F0 m 83 ls []) := by
  have hx := C.1
  have hb := C.2.1
  unfold fMod_live_B83 at h
  refine lv_iload hx hb d_Mod_live_83 (lv_at hl 4 rfl) ?_
  refine lv_iconst (v := 4) hx hb d_Mod_live_85 (by decide) ?_
  refine lv_iload_n hx hb d_Mod_live_86 rfl (lv_at hl 3 rfl) ?_
  refine lv_imul hx hb d_Mod_live_87 ?_
  refine lv_aload_n hx hb d_Mod_live_88 rfl (lv_at hl 0 rfl) ?_
  refine lv_iload_n hx hb d_Mod_live_89 rfl (lv_at hl 3 rfl) ?_
  obtain ⟨p90, hp90, h⟩ := of_bind h
  refine rb_callI smok C (c_Mod_manyRefs hp90) cw_Mod_111 ⟨Nat.le_of_ble_eq_true rfl, Nat.le_of_ble_eq_true rfl⟩ ⟨rfl, rfl⟩ (q0 := 0) (ci := 4) rfl rfl hI ⟨Nat.zero_le _, Nat.zero_le _⟩ (As := [.int x3]) rfl hl.1 (rest := [.int ((4 : Int32) * x3), .int s0.2.1]) (Nat.le_of_ble_eq_true rfl) rfl d_Mod_live_90 (fun H locs hI => ?_)
  refine lv_iadd hx hb d_Mod_live_93 ?_
  refine lv_icmp_ge (tgt := 158) hx hb d_Mod_live_94 (by decide) (fun hc => ?_) (fun hc => ?_)
  · replace h := of_pos hc h
    replace h := Option.some.inj h
    subst h
    exact kX0 rfl _ _ _ (lv_sub hl [0, 1, 2, 3, 4] rfl) hI
  · replace h := of_neg hc h
    refine lv_aload_n hx hb d_Mod_live_97 rfl (lv_at hl 0 rfl) ?_
    refine gf_Mod_37 C hI d_Mod_live_98 ?_
    refine lv_iload hx hb d_Mod_live_101 (lv_at hl 4 rfl) ?_
    obtain ⟨hg103, h⟩ := of_guard h
    refine al_M_9 C hI (f := p90.2.2 9) rfl hg103 d_Mod_live_103 ?_
    refine lv_iconst (v := (-1)) hx hb d_Mod_live_104 (by decide) ?_
    refine lv_icmp_eq (tgt := 152) hx hb d_Mod_live_105 (by decide) (fun hc => ?_) (fun hc => ?_)
    · replace h := of_pos hc h
      exact j_Mod_live_B83_J152 C h (lv_sub hl [0, 1, 2, 3, 4] rfl) hI kC kX0
    · replace h := of_neg hc h
      refine lv_aload_n hx hb d_Mod_live_108 rfl (lv_at hl 0 rfl) ?_
      refine gf_Mod_49 C hI d_Mod_live_109 ?_
      refine lv_aload_n hx hb d_Mod_live_112 rfl (lv_at hl 0 rfl) ?_
      refine gf_Mod_37 C hI d_Mod_live_113 ?_
      refine lv_iload hx hb d_Mod_live_116 (lv_at hl 4 rfl) ?_
      obtain ⟨hg118, h⟩ := of_guard h
      refine al_M_9 C hI (f := p90.2.2 9) rfl hg118 d_Mod_live_118 ?_
      obtain ⟨hg119, h⟩ := of_guard h
      refine al_M_13 C hI (f := p90.2.2 13) rfl hg119 d_Mod_live_119 ?_
      refine lv_if_ne (tgt := 152) hx hb d_Mod_live_120 (by decide) (fun hc => ?_) (fun hc => ?_)
      · replace h := of_neg hc h
        exact j_Mod_live_B83_J152 C h (lv_sub hl [0, 1, 2, 3, 4] rfl) hI kC kX0
      · replace h := of_pos hc h
        refine lv_aload_n hx hb d_Mod_live_123 rfl (lv_at hl 0 rfl) ?_
        refine gf_Mod_49 C hI d_Mod_live_124 ?_
        refine lv_aload_n hx hb d_Mod_live_127 rfl (lv_at hl 0 rfl) ?_
        refine gf_Mod_37 C hI d_Mod_live_128 ?_
        refine lv_iload hx hb d_Mod_live_131 (lv_at hl 4 rfl) ?_
        obtain ⟨hg133, h⟩ := of_guard h
        refine al_M_9 C hI (f := p90.2.2 9) rfl hg133 d_Mod_live_133 ?_
        refine lv_iconst (v := 1) hx hb d_Mod_live_134 (by decide) ?_
        obtain ⟨hg135, h⟩ := of_guard h
        refine as_M_13 C hI (σ' := (p90.2.1, va_up p90.2.2 13 (upd (p90.2.2 13) ((p90.2.2 9) s0.2.1.toNatClampNeg).toNatClampNeg 1))) rfl hg135 (by decide) d_Mod_live_135 (fun H locs hI => ?_)
        refine lv_aload_n hx hb d_Mod_live_136 rfl (lv_at hl 0 rfl) ?_
        refine gf_Mod_46 C hI d_Mod_live_137 ?_
        refine lv_iload_n hx hb d_Mod_live_140 rfl (lv_at hl 1 rfl) ?_
        refine lv_aload_n hx hb d_Mod_live_141 rfl (lv_at hl 0 rfl) ?_
        refine gf_Mod_37 C hI d_Mod_live_142 ?_
        refine lv_iload hx hb d_Mod_live_145 (lv_at hl 4 rfl) ?_
        obtain ⟨hg147, h⟩ := of_guard h
        refine al_M_9 C hI (f := p90.2.2 9) rfl hg147 d_Mod_live_147 ?_
        obtain ⟨hg148, h⟩ := of_guard h
        refine as_M_12 C hI (σ' := (p90.2.1, va_up (va_up p90.2.2 13 (upd (p90.2.2 13) ((p90.2.2 9) s0.2.1.toNatClampNeg).toNatClampNeg 1)) 12 (upd (p90.2.2 12) s0.1.toNatClampNeg ((p90.2.2 9) s0.2.1.toNatClampNeg)))) rfl hg148 d_Mod_live_148 (fun H locs hI => ?_)
        refine lv_iinc (k := 1) (v := s0.1 + 1) (lv' := [(1, .int (s0.1 + 1)), (0, .ref (a 0)), (2, .int x2), (3, .int x3), (4, .int s0.2.1)]) hx hb d_Mod_live_149 hl rfl rfl (by decide) rfl (fun ls hl => ?_)
        exact j_Mod_live_B83_J152 C h (lv_sub hl [1, 0, 2, 3, 4] rfl) hI kC kX0
set_option maxHeartbeats 4000000 in
set_option maxRecDepth 100000 in
theorem l_Mod_live_B83 {l : Launch} {dC : Nat → ClassId} {dI : Nat → Nat → Nat} {a : Nat → Nat} {cI cZ : ClassId} {pr : Program} {e : Env} {s : State} {m : MethodId} {args : Array Value} {below : List Frame} {meth : Method} {c : Code} {A : Nat → Prop} {x2 x3 : Int32} {Q : State → Prop} (C : Cx (dC, dI) clA (tyM cI cZ) SXm pr s m args meth c b_Mod_live 5 y_Mod_live.cls A) : ∀ (k : Nat) (s0 : Int32 × Int32 × St) (q : Nat × (Int32 × Int32 × St)) (ls : Array Slot) (H : Heap) (locs : List Loc), rbLoop (fMod_live_B83 x2 x3) k s0 = some q → lv_has ls 5 [(0, .ref (a 0)), (1, .int s0.1), (2, .int x2), (3, .int x3), (4, .int s0.2.1)] → Wi (dC, dI) clA (wM a cI cZ s0.2.2) s A H locs → (q.1 = 0 → ∀ (ls : Array Slot) (H : Heap) (locs : List Loc), lv_has ls 5 [(0, .ref (a 0)), (1, .int q.2.1), (2, .int x2), (3, .int x3), (4, .int q.2.2.1)] → Wi (dC, dI) clA (wM a cI cZ q.2.2.2) s A H locs → W pr l e rm_Mod_live s m args below meth c H locs 0 0 Q (F0 m 158 ls [])) → W pr l e rm_Mod_live s m args below meth c H locs 0 0 Q (F0 m 83 ls []) := by
  intro k
  induction k with
  | zero => intro s0 q ls H locs h; cases h
  | succ k ih =>
    intro s0 q ls H locs h hl hI kX0
    obtain ⟨q1, hq1, h⟩ := rbLoop_succ h
    by_cases hc : q1.1 = 1
    · replace h := of_pos hc h
      refine b_Mod_live_B83 C hq1 hl hI (fun _ ls H locs hl hI => ih _ _ _ _ _ h hl hI kX0) (fun hz => absurd (hc.symm.trans hz) (by decide))
    · replace h := of_neg hc h
      cases h
      exact b_Mod_live_B83 C hq1 hl hI (fun hz => absurd hz hc) kX0
set_option maxHeartbeats 4000000 in
set_option maxRecDepth 100000 in
theorem b_Mod_live_B56 {l : Launch} {dC : Nat → ClassId} {dI : Nat → Nat → Nat} {a : Nat → Nat} {cI cZ : ClassId} {pr : Program} {e : Env} {s : State} {m : MethodId} {args : Array Value} {below : List Frame} {meth : Method} {c : Code} {A : Nat → Prop} {ls : Array Slot} {H : Heap} {locs : List Loc} {s0 : Int32 × Int32 × St} {q : Nat × (Int32 × Int32 × St)} {Q : State → Prop} (C : Cx (dC, dI) clA (tyM cI cZ) SXm pr s m args meth c b_Mod_live 5 y_Mod_live.cls A) (h : fMod_live_B56 s0 = some q) (hl : lv_has ls 5 [(0, .ref (a 0)), (1, .int s0.1), (2, .int s0.2.1)]) (hI : Wi (dC, dI) clA (wM a cI cZ s0.2.2) s A H locs) (kC : q.1 = 1 → ∀ (ls : Array Slot) (H : Heap) (locs : List Loc), lv_has ls 5 [(0, .ref (a 0)), (1, .int q.2.1), (2, .int q.2.2.1)] → Wi (dC, dI) clA (wM a cI cZ q.2.2.2) s A H locs → W pr l e rm_Mod_live s m args below meth c H locs 0 0 Q (F0 m 56 ls [])) (kX0 : q.1 = 0 → ∀ (ls : Array Slot) (H : Heap) (locs : List Loc), lv_has ls 5 [(0, .ref (a 0)), (1, .int q.2.1), (2, .int q.2.2.1)] → Wi (dC, dI) clA (wM a cI cZ q.2.2.2) s A H locs → W pr l e rm_Mod_live s m args below meth c H locs 0 0 Q (F0 m 161 ls [])) : W pr l e rm_Mod_live s m args below meth c H locs 0 0 Q (F0 m 56 ls []) := by
  have hx := C.1
  have hb := C.2.1
  unfold fMod_live_B56 at h
  refine lv_iload_n hx hb d_Mod_live_56 rfl (lv_at hl 1 rfl) ?_
  refine lv_if_le (tgt := 161) hx hb d_Mod_live_57 (by decide) (fun hc => ?_) (fun hc => ?_)
  · replace h := of_pos hc h
    replace h := Option.some.inj h
    subst h
    exact kX0 rfl _ _ _ (lv_sub hl [0, 1, 2] rfl) hI
  · replace h := of_neg hc h
    refine lv_iinc (k := 1) (v := s0.1 + (-1)) (lv' := [(1, .int (s0.1 + (-1))), (0, .ref (a 0)), (2, .int s0.2.1)]) hx hb d_Mod_live_60 hl rfl rfl (by decide) rfl (fun ls hl => ?_)
    refine lv_aload_n hx hb d_Mod_live_63 rfl (lv_at hl 1 rfl) ?_
    refine gf_Mod_46 C hI d_Mod_live_64 ?_
    refine lv_iload_n hx hb d_Mod_live_67 rfl (lv_at hl 0 rfl) ?_
    obtain ⟨hg68, h⟩ := of_guard h
    refine al_M_12 C hI (f := s0.2.2.2 12) rfl hg68 d_Mod_live_68 ?_
    refine lv_istore_n (lv' := [(3, .int ((s0.2.2.2 12) (s0.1 + (-1)).toNatClampNeg)), (1, .int (s0.1 + (-1))), (0, .ref (a 0)), (2, .int s0.2.1)]) hx hb d_Mod_live_69 rfl hl (by decide) rfl (fun ls hl => ?_)
    refine lv_iload_n hx hb d_Mod_live_70 rfl (lv_at hl 3 rfl) ?_
    refine lv_aload_n hx hb d_Mod_live_71 rfl (lv_at hl 2 rfl) ?_
    refine lv_iload_n hx hb d_Mod_live_72 rfl (lv_at hl 0 rfl) ?_
    obtain ⟨p73, hp73, h⟩ := of_bind h
    refine rb_callI smok C (c_Mod_size hp73) cw_Mod_91 ⟨Nat.le_of_ble_eq_true rfl, Nat.le_of_ble_eq_true rfl⟩ ⟨rfl, rfl⟩ (q0 := 0) (ci := 4) rfl rfl hI ⟨Nat.zero_le _, Nat.zero_le _⟩ (As := [.int ((s0.2.2.2 12) (s0.1 + (-1)).toNatClampNeg)]) rfl hl.1 (rest := [.int s0.2.1]) (Nat.le_of_ble_eq_true rfl) rfl d_Mod_live_73 (fun H locs hI => ?_)
    refine lv_iadd hx hb d_Mod_live_76 ?_
    refine lv_istore_n (lv' := [(2, .int (s0.2.1 + p73.1)), (3, .int ((s0.2.2.2 12) (s0.1 + (-1)).toNatClampNeg)), (1, .int (s0.1 + (-1))), (0, .ref (a 0))]) hx hb d_Mod_live_77 rfl hl (by decide) rfl (fun ls hl => ?_)
    refine lv_iconst (v := 4) hx hb d_Mod_live_78 (by decide) ?_
    refine lv_iload_n hx hb d_Mod_live_79 rfl (lv_at hl 1 rfl) ?_
    refine lv_imul hx hb d_Mod_live_80 ?_
    refine lv_istore (lv' := [(4, .int ((4 : Int32) * ((s0.2.2.2 12) (s0.1 + (-1)).toNatClampNeg))), (2, .int (s0.2.1 + p73.1)), (3, .int ((s0.2.2.2 12) (s0.1 + (-1)).toNatClampNeg)), (1, .int (s0.1 + (-1))), (0, .ref (a 0))]) hx hb d_Mod_live_81 hl (by decide) rfl (fun ls hl => ?_)
    obtain ⟨q83, hq83, h⟩ := of_bind h
    refine l_Mod_live_B83 C _ _ _ _ _ _ hq83 (lv_sub hl [4, 3, 1, 2, 0] rfl) hI ?_
    intro _ ls H locs hl hI
    refine lv_goto (tgt := 56) hx hb d_Mod_live_158 (by decide) ?_
    replace h := Option.some.inj h
    subst h
    exact kC rfl _ _ _ (lv_sub hl [0, 1, 2] rfl) hI
set_option maxHeartbeats 4000000 in
set_option maxRecDepth 100000 in
theorem l_Mod_live_B56 {l : Launch} {dC : Nat → ClassId} {dI : Nat → Nat → Nat} {a : Nat → Nat} {cI cZ : ClassId} {pr : Program} {e : Env} {s : State} {m : MethodId} {args : Array Value} {below : List Frame} {meth : Method} {c : Code} {A : Nat → Prop} {Q : State → Prop} (C : Cx (dC, dI) clA (tyM cI cZ) SXm pr s m args meth c b_Mod_live 5 y_Mod_live.cls A) : ∀ (k : Nat) (s0 : Int32 × Int32 × St) (q : Nat × (Int32 × Int32 × St)) (ls : Array Slot) (H : Heap) (locs : List Loc), rbLoop (fMod_live_B56) k s0 = some q → lv_has ls 5 [(0, .ref (a 0)), (1, .int s0.1), (2, .int s0.2.1)] → Wi (dC, dI) clA (wM a cI cZ s0.2.2) s A H locs → (q.1 = 0 → ∀ (ls : Array Slot) (H : Heap) (locs : List Loc), lv_has ls 5 [(0, .ref (a 0)), (1, .int q.2.1), (2, .int q.2.2.1)] → Wi (dC, dI) clA (wM a cI cZ q.2.2.2) s A H locs → W pr l e rm_Mod_live s m args below meth c H locs 0 0 Q (F0 m 161 ls [])) → W pr l e rm_Mod_live s m args below meth c H locs 0 0 Q (F0 m 56 ls []) := by
  intro k
  induction k with
  | zero => intro s0 q ls H locs h; cases h
  | succ k ih =>
    intro s0 q ls H locs h hl hI kX0
    obtain ⟨q1, hq1, h⟩ := rbLoop_succ h
    by_cases hc : q1.1 = 1
    · replace h := of_pos hc h
      refine b_Mod_live_B56 C hq1 hl hI (fun _ ls H locs hl hI => ih _ _ _ _ _ h hl hI kX0) (fun hz => absurd (hc.symm.trans hz) (by decide))
    · replace h := of_neg hc h
      cases h
      exact b_Mod_live_B56 C hq1 hl hI (fun hz => absurd hz hc) kX0
set_option maxHeartbeats 4000000 in
set_option maxRecDepth 100000 in
theorem c_Mod_live {l : Launch} {dC : Nat → ClassId} {dI : Nat → Nat → Nat} {a : Nat → Nat} {cI cZ : ClassId} {σ : St} {q : Int32 × St} (h : fMod_live σ = some q) : CI l (dC, dI) clA (tyM cI cZ) SXm (wM a cI cZ σ) (wM a cI cZ q.2) y_Mod_live b_Mod_live 5 (some .int) rm_Mod_live [.ref (a 0)] q.1 := by
  refine CI_of (by decide) (Nat.le_of_ble_eq_true rfl) ?_
  intro pr e s m below meth c A ls C hr hl hI
  have hx := C.1
  have hb := C.2.1
  have hl : lv_has ls 5 [(0, .ref (a 0))] := hl
  unfold fMod_live at h
  refine lv_aload_n hx hb d_Mod_live_0 rfl (lv_at hl 0 rfl) ?_
  refine gf_Mod_53 C hI (v := σ.1 12) rfl d_Mod_live_1 ?_
  refine lv_iconst (v := 4) hx hb d_Mod_live_4 (by decide) ?_
  refine lv_icmp_ne (tgt := 10) hx hb d_Mod_live_5 (by decide) (fun hc => ?_) (fun hc => ?_)
  · replace h := of_neg hc h
    refine lv_iconst (v := 0) hx hb d_Mod_live_10 (by decide) ?_
    refine lv_istore_n (lv' := [(1, .int 0), (0, .ref (a 0))]) hx hb d_Mod_live_11 rfl hl (by decide) rfl (fun ls hl => ?_)
    obtain ⟨q12, hq12, h⟩ := of_bind h
    refine l_Mod_live_B12 C _ _ _ _ _ _ hq12 (lv_sub hl [1, 0] rfl) hI ?_
    intro _ ls H locs hl hI
    refine lv_iconst (v := 1) hx hb d_Mod_live_32 (by decide) ?_
    refine lv_istore_n (lv' := [(1, .int 1), (0, .ref (a 0))]) hx hb d_Mod_live_33 rfl hl (by decide) rfl (fun ls hl => ?_)
    refine lv_iconst (v := 0) hx hb d_Mod_live_34 (by decide) ?_
    refine lv_istore_n (lv' := [(2, .int 0), (1, .int 1), (0, .ref (a 0))]) hx hb d_Mod_live_35 rfl hl (by decide) rfl (fun ls hl => ?_)
    refine lv_aload_n hx hb d_Mod_live_36 rfl (lv_at hl 2 rfl) ?_
    refine gf_Mod_46 C hI d_Mod_live_37 ?_
    refine lv_iconst (v := 0) hx hb d_Mod_live_40 (by decide) ?_
    refine lv_aload_n hx hb d_Mod_live_41 rfl (lv_at hl 2 rfl) ?_
    refine gf_Mod_120 C hI (v := q12.2.2.1 9) rfl d_Mod_live_42 ?_
    obtain ⟨hg45, h⟩ := of_guard h
    refine as_M_12 C hI (σ' := (q12.2.2.1, va_up q12.2.2.2 12 (upd (q12.2.2.2 12) (0 : Int32).toNatClampNeg (q12.2.2.1 9)))) rfl hg45 d_Mod_live_45 (fun H locs hI => ?_)
    refine lv_aload_n hx hb d_Mod_live_46 rfl (lv_at hl 2 rfl) ?_
    refine gf_Mod_49 C hI d_Mod_live_47 ?_
    refine lv_aload_n hx hb d_Mod_live_50 rfl (lv_at hl 2 rfl) ?_
    refine gf_Mod_120 C hI (v := q12.2.2.1 9) rfl d_Mod_live_51 ?_
    refine lv_iconst (v := 1) hx hb d_Mod_live_54 (by decide) ?_
    obtain ⟨hg55, h⟩ := of_guard h
    refine as_M_13 C hI (σ' := (q12.2.2.1, va_up (va_up q12.2.2.2 12 (upd (q12.2.2.2 12) (0 : Int32).toNatClampNeg (q12.2.2.1 9))) 13 (upd (q12.2.2.2 13) (q12.2.2.1 9).toNatClampNeg 1))) rfl hg55 (by decide) d_Mod_live_55 (fun H locs hI => ?_)
    obtain ⟨q56, hq56, h⟩ := of_bind h
    refine l_Mod_live_B56 C _ _ _ _ _ _ hq56 (lv_sub hl [2, 1, 0] rfl) hI ?_
    intro _ ls H locs hl hI
    refine lv_iload_n hx hb d_Mod_live_161 rfl (lv_at hl 2 rfl) ?_
    replace h := Option.some.inj h
    subst h
    exact rb_retI C hr hI d_Mod_live_162
  · replace h := of_pos hc h
    refine lv_iconst (v := 0) hx hb d_Mod_live_8 (by decide) ?_
    replace h := Option.some.inj h
    subst h
    exact rb_retI C hr hI d_Mod_live_9
theorem d_Mod_kindAt_0 : decode b_Mod_kindAt 0 = .ok (.aload_n 0, 1) := by decide +kernel
theorem d_Mod_kindAt_1 : decode b_Mod_kindAt 1 = .ok (.getfield 53, 3) := by decide +kernel
theorem d_Mod_kindAt_4 : decode b_Mod_kindAt 4 = .ok (.iconst 4, 1) := by decide +kernel
theorem d_Mod_kindAt_5 : decode b_Mod_kindAt 5 = .ok (.if_icmp .eq 11, 3) := by decide +kernel
theorem d_Mod_kindAt_8 : decode b_Mod_kindAt 8 = .ok (.iload_n 1, 1) := by decide +kernel
theorem d_Mod_kindAt_9 : decode b_Mod_kindAt 9 = .ok (.iconst 3, 1) := by decide +kernel
theorem d_Mod_kindAt_10 : decode b_Mod_kindAt 10 = .ok (.invokestatic 69, 3) := by decide +kernel
theorem d_Mod_kindAt_13 : decode b_Mod_kindAt 13 = .ok (.ifCond .ne 5, 3) := by decide +kernel
theorem d_Mod_kindAt_16 : decode b_Mod_kindAt 16 = .ok (.iconst (-1), 1) := by decide +kernel
theorem d_Mod_kindAt_17 : decode b_Mod_kindAt 17 = .ok (.ireturn, 1) := by decide +kernel
theorem d_Mod_kindAt_18 : decode b_Mod_kindAt 18 = .ok (.aload_n 0, 1) := by decide +kernel
theorem d_Mod_kindAt_19 : decode b_Mod_kindAt 19 = .ok (.getfield 37, 3) := by decide +kernel
theorem d_Mod_kindAt_22 : decode b_Mod_kindAt 22 = .ok (.iconst 4, 1) := by decide +kernel
theorem d_Mod_kindAt_23 : decode b_Mod_kindAt 23 = .ok (.aload_n 0, 1) := by decide +kernel
theorem d_Mod_kindAt_24 : decode b_Mod_kindAt 24 = .ok (.getfield 120, 3) := by decide +kernel
theorem d_Mod_kindAt_27 : decode b_Mod_kindAt 27 = .ok (.imul, 1) := by decide +kernel
theorem d_Mod_kindAt_28 : decode b_Mod_kindAt 28 = .ok (.iload_n 1, 1) := by decide +kernel
theorem d_Mod_kindAt_29 : decode b_Mod_kindAt 29 = .ok (.iadd, 1) := by decide +kernel
theorem d_Mod_kindAt_30 : decode b_Mod_kindAt 30 = .ok (.iaload, 1) := by decide +kernel
theorem d_Mod_kindAt_31 : decode b_Mod_kindAt 31 = .ok (.istore_n 3, 1) := by decide +kernel
theorem d_Mod_kindAt_32 : decode b_Mod_kindAt 32 = .ok (.iload_n 3, 1) := by decide +kernel
theorem d_Mod_kindAt_33 : decode b_Mod_kindAt 33 = .ok (.iconst (-1), 1) := by decide +kernel
theorem d_Mod_kindAt_34 : decode b_Mod_kindAt 34 = .ok (.if_icmp .eq 8, 3) := by decide +kernel
theorem d_Mod_kindAt_37 : decode b_Mod_kindAt 37 = .ok (.iload_n 2, 1) := by decide +kernel
theorem d_Mod_kindAt_38 : decode b_Mod_kindAt 38 = .ok (.iconst (-1), 1) := by decide +kernel
theorem d_Mod_kindAt_39 : decode b_Mod_kindAt 39 = .ok (.if_icmp .ne 19, 3) := by decide +kernel
theorem d_Mod_kindAt_42 : decode b_Mod_kindAt 42 = .ok (.iload_n 3, 1) := by decide +kernel
theorem d_Mod_kindAt_43 : decode b_Mod_kindAt 43 = .ok (.iconst (-1), 1) := by decide +kernel
theorem d_Mod_kindAt_44 : decode b_Mod_kindAt 44 = .ok (.if_icmp .ne 7, 3) := by decide +kernel
theorem d_Mod_kindAt_47 : decode b_Mod_kindAt 47 = .ok (.iconst (-1), 1) := by decide +kernel
theorem d_Mod_kindAt_48 : decode b_Mod_kindAt 48 = .ok (.goto 9, 3) := by decide +kernel
theorem d_Mod_kindAt_51 : decode b_Mod_kindAt 51 = .ok (.aload_n 0, 1) := by decide +kernel
theorem d_Mod_kindAt_52 : decode b_Mod_kindAt 52 = .ok (.getfield 31, 3) := by decide +kernel
theorem d_Mod_kindAt_55 : decode b_Mod_kindAt 55 = .ok (.iload_n 3, 1) := by decide +kernel
theorem d_Mod_kindAt_56 : decode b_Mod_kindAt 56 = .ok (.iaload, 1) := by decide +kernel
theorem d_Mod_kindAt_57 : decode b_Mod_kindAt 57 = .ok (.ireturn, 1) := by decide +kernel
theorem d_Mod_kindAt_58 : decode b_Mod_kindAt 58 = .ok (.iload_n 2, 1) := by decide +kernel
theorem d_Mod_kindAt_59 : decode b_Mod_kindAt 59 = .ok (.aload_n 0, 1) := by decide +kernel
theorem d_Mod_kindAt_60 : decode b_Mod_kindAt 60 = .ok (.getfield 7, 3) := by decide +kernel
theorem d_Mod_kindAt_63 : decode b_Mod_kindAt 63 = .ok (.aload_n 0, 1) := by decide +kernel
theorem d_Mod_kindAt_64 : decode b_Mod_kindAt 64 = .ok (.getfield 31, 3) := by decide +kernel
theorem d_Mod_kindAt_67 : decode b_Mod_kindAt 67 = .ok (.iload_n 3, 1) := by decide +kernel
theorem d_Mod_kindAt_68 : decode b_Mod_kindAt 68 = .ok (.iaload, 1) := by decide +kernel
theorem d_Mod_kindAt_69 : decode b_Mod_kindAt 69 = .ok (.iaload, 1) := by decide +kernel
theorem d_Mod_kindAt_70 : decode b_Mod_kindAt 70 = .ok (.invokestatic 69, 3) := by decide +kernel
theorem d_Mod_kindAt_73 : decode b_Mod_kindAt 73 = .ok (.ifCond .ne 5, 3) := by decide +kernel
theorem d_Mod_kindAt_76 : decode b_Mod_kindAt 76 = .ok (.iconst (-1), 1) := by decide +kernel
theorem d_Mod_kindAt_77 : decode b_Mod_kindAt 77 = .ok (.ireturn, 1) := by decide +kernel
theorem d_Mod_kindAt_78 : decode b_Mod_kindAt 78 = .ok (.aload_n 0, 1) := by decide +kernel
theorem d_Mod_kindAt_79 : decode b_Mod_kindAt 79 = .ok (.getfield 37, 3) := by decide +kernel
theorem d_Mod_kindAt_82 : decode b_Mod_kindAt 82 = .ok (.iconst 4, 1) := by decide +kernel
theorem d_Mod_kindAt_83 : decode b_Mod_kindAt 83 = .ok (.iload_n 3, 1) := by decide +kernel
theorem d_Mod_kindAt_84 : decode b_Mod_kindAt 84 = .ok (.imul, 1) := by decide +kernel
theorem d_Mod_kindAt_85 : decode b_Mod_kindAt 85 = .ok (.iload_n 2, 1) := by decide +kernel
theorem d_Mod_kindAt_86 : decode b_Mod_kindAt 86 = .ok (.iadd, 1) := by decide +kernel
theorem d_Mod_kindAt_87 : decode b_Mod_kindAt 87 = .ok (.iaload, 1) := by decide +kernel
theorem d_Mod_kindAt_88 : decode b_Mod_kindAt 88 = .ok (.istore 4, 2) := by decide +kernel
theorem d_Mod_kindAt_90 : decode b_Mod_kindAt 90 = .ok (.iload 4, 2) := by decide +kernel
theorem d_Mod_kindAt_92 : decode b_Mod_kindAt 92 = .ok (.iconst (-1), 1) := by decide +kernel
theorem d_Mod_kindAt_93 : decode b_Mod_kindAt 93 = .ok (.if_icmp .ne 7, 3) := by decide +kernel
theorem d_Mod_kindAt_96 : decode b_Mod_kindAt 96 = .ok (.iconst (-1), 1) := by decide +kernel
theorem d_Mod_kindAt_97 : decode b_Mod_kindAt 97 = .ok (.goto 10, 3) := by decide +kernel
theorem d_Mod_kindAt_100 : decode b_Mod_kindAt 100 = .ok (.aload_n 0, 1) := by decide +kernel
theorem d_Mod_kindAt_101 : decode b_Mod_kindAt 101 = .ok (.getfield 31, 3) := by decide +kernel
theorem d_Mod_kindAt_104 : decode b_Mod_kindAt 104 = .ok (.iload 4, 2) := by decide +kernel
theorem d_Mod_kindAt_106 : decode b_Mod_kindAt 106 = .ok (.iaload, 1) := by decide +kernel
theorem d_Mod_kindAt_107 : decode b_Mod_kindAt 107 = .ok (.ireturn, 1) := by decide +kernel
abbrev rm_Mod_kindAt : Room := { frames := 1, cells := 0, slots := 0, locals := 21 }
set_option maxHeartbeats 4000000 in
set_option maxRecDepth 100000 in
theorem j_Mod_kindAt_J42 {l : Launch} {dC : Nat → ClassId} {dI : Nat → Nat → Nat} {a : Nat → Nat} {cI cZ : ClassId} {pr : Program} {e : Env} {s : State} {m : MethodId} {args : Array Value} {below : List Frame} {meth : Method} {c : Code} {A : Nat → Prop} {ls : Array Slot} {H : Heap} {locs : List Loc} {σ : St} {x3 : Int32} {q : Int32 × St} (C : Cx (dC, dI) clA (tyM cI cZ) SXm pr s m args meth c b_Mod_kindAt 5 y_Mod_kindAt.cls A) (hr : meth.sig.returnType = (some .int)) (h : fMod_kindAt_J42 σ x3 = some q) (hl : lv_has ls 5 [(0, .ref (a 0)), (3, .int x3)]) (hI : Wi (dC, dI) clA (wM a cI cZ σ) s A H locs)  : W pr l e rm_Mod_kindAt s m args below meth c H locs 0 0 (MQ below (rb_Qi (dC, dI) clA (tyM cI cZ) (wM a cI cZ q.2) q.1 A) args s 0 0 A) (F0 m 42 ls []) := by
  have hx := C.1
  have hb := C.2.1
  unfold fMod_kindAt_J42 at h
  refine lv_iload_n hx hb d_Mod_kindAt_42 rfl (lv_at hl 1 rfl) ?_
  refine lv_iconst (v := (-1)) hx hb d_Mod_kindAt_43 (by decide) ?_
  refine lv_icmp_ne (tgt := 51) hx hb d_Mod_kindAt_44 (by decide) (fun hc => ?_) (fun hc => ?_)
  · replace h := of_neg hc h
    refine lv_aload_n hx hb d_Mod_kindAt_51 rfl (lv_at hl 0 rfl) ?_
    refine gf_Mod_31 C hI d_Mod_kindAt_52 ?_
    refine lv_iload_n hx hb d_Mod_kindAt_55 rfl (lv_at hl 1 rfl) ?_
    obtain ⟨hg56, h⟩ := of_guard h
    refine al_M_7 C hI (f := σ.2 7) rfl hg56 d_Mod_kindAt_56 ?_
    replace h := Option.some.inj h
    subst h
    exact rb_retI C hr hI d_Mod_kindAt_57
  · replace h := of_pos hc h
    refine lv_iconst (v := (-1)) hx hb d_Mod_kindAt_47 (by decide) ?_
    refine lv_goto (tgt := 57) hx hb d_Mod_kindAt_48 (by decide) ?_
    replace h := Option.some.inj h
    subst h
    exact rb_retI C hr hI d_Mod_kindAt_57
set_option maxHeartbeats 4000000 in
set_option maxRecDepth 100000 in
theorem c_Mod_kindAt {l : Launch} {dC : Nat → ClassId} {dI : Nat → Nat → Nat} {a : Nat → Nat} {cI cZ : ClassId} {σ : St} {x1 x2 : Int32} {q : Int32 × St} (h : fMod_kindAt σ x1 x2 = some q) : CI l (dC, dI) clA (tyM cI cZ) SXm (wM a cI cZ σ) (wM a cI cZ q.2) y_Mod_kindAt b_Mod_kindAt 5 (some .int) rm_Mod_kindAt [.ref (a 0), .int x1, .int x2] q.1 := by
  refine CI_of (by decide) (Nat.le_of_ble_eq_true rfl) ?_
  intro pr e s m below meth c A ls C hr hl hI
  have hx := C.1
  have hb := C.2.1
  have hl : lv_has ls 5 [(0, .ref (a 0)), (1, .int x1), (2, .int x2)] := hl
  unfold fMod_kindAt at h
  refine lv_aload_n hx hb d_Mod_kindAt_0 rfl (lv_at hl 0 rfl) ?_
  refine gf_Mod_53 C hI (v := σ.1 12) rfl d_Mod_kindAt_1 ?_
  refine lv_iconst (v := 4) hx hb d_Mod_kindAt_4 (by decide) ?_
  refine lv_icmp_eq (tgt := 16) hx hb d_Mod_kindAt_5 (by decide) (fun hc => ?_) (fun hc => ?_)
  · replace h := of_pos hc h
    refine lv_iconst (v := (-1)) hx hb d_Mod_kindAt_16 (by decide) ?_
    replace h := Option.some.inj h
    subst h
    exact rb_retI C hr hI d_Mod_kindAt_17
  · replace h := of_neg hc h
    refine lv_iload_n hx hb d_Mod_kindAt_8 rfl (lv_at hl 1 rfl) ?_
    refine lv_iconst (v := 3) hx hb d_Mod_kindAt_9 (by decide) ?_
    obtain ⟨p10, hp10, h⟩ := of_bind h
    refine rb_callSI smok C (c_Mod_below hp10) cw_Mod_69 ⟨Nat.le_of_ble_eq_true rfl, Nat.le_of_ble_eq_true rfl⟩ ⟨rfl, rfl⟩ hI ⟨Nat.zero_le _, Nat.zero_le _⟩ (As := [.int x1, .int 3]) rfl hl.1 (rest := []) (Nat.le_of_ble_eq_true rfl) rfl d_Mod_kindAt_10 (fun H locs hI => ?_)
    refine lv_if_ne (tgt := 18) hx hb d_Mod_kindAt_13 (by decide) (fun hc => ?_) (fun hc => ?_)
    · replace h := of_neg hc h
      refine lv_aload_n hx hb d_Mod_kindAt_18 rfl (lv_at hl 0 rfl) ?_
      refine gf_Mod_37 C hI d_Mod_kindAt_19 ?_
      refine lv_iconst (v := 4) hx hb d_Mod_kindAt_22 (by decide) ?_
      refine lv_aload_n hx hb d_Mod_kindAt_23 rfl (lv_at hl 0 rfl) ?_
      refine gf_Mod_120 C hI (v := p10.2.1 9) rfl d_Mod_kindAt_24 ?_
      refine lv_imul hx hb d_Mod_kindAt_27 ?_
      refine lv_iload_n hx hb d_Mod_kindAt_28 rfl (lv_at hl 1 rfl) ?_
      refine lv_iadd hx hb d_Mod_kindAt_29 ?_
      obtain ⟨hg30, h⟩ := of_guard h
      refine al_M_9 C hI (f := p10.2.2 9) rfl hg30 d_Mod_kindAt_30 ?_
      refine lv_istore_n (lv' := [(3, .int ((p10.2.2 9) (((4 : Int32) * (p10.2.1 9)) + x1).toNatClampNeg)), (0, .ref (a 0)), (1, .int x1), (2, .int x2)]) hx hb d_Mod_kindAt_31 rfl hl (by decide) rfl (fun ls hl => ?_)
      refine lv_iload_n hx hb d_Mod_kindAt_32 rfl (lv_at hl 0 rfl) ?_
      refine lv_iconst (v := (-1)) hx hb d_Mod_kindAt_33 (by decide) ?_
      refine lv_icmp_eq (tgt := 42) hx hb d_Mod_kindAt_34 (by decide) (fun hc => ?_) (fun hc => ?_)
      · replace h := of_pos hc h
        exact j_Mod_kindAt_J42 C hr h (lv_sub hl [1, 0] rfl) hI
      · replace h := of_neg hc h
        refine lv_iload_n hx hb d_Mod_kindAt_37 rfl (lv_at hl 3 rfl) ?_
        refine lv_iconst (v := (-1)) hx hb d_Mod_kindAt_38 (by decide) ?_
        refine lv_icmp_ne (tgt := 58) hx hb d_Mod_kindAt_39 (by decide) (fun hc => ?_) (fun hc => ?_)
        · replace h := of_neg hc h
          refine lv_iload_n hx hb d_Mod_kindAt_58 rfl (lv_at hl 3 rfl) ?_
          refine lv_aload_n hx hb d_Mod_kindAt_59 rfl (lv_at hl 1 rfl) ?_
          refine gf_Mod_7 C hI d_Mod_kindAt_60 ?_
          refine lv_aload_n hx hb d_Mod_kindAt_63 rfl (lv_at hl 1 rfl) ?_
          refine gf_Mod_31 C hI d_Mod_kindAt_64 ?_
          refine lv_iload_n hx hb d_Mod_kindAt_67 rfl (lv_at hl 0 rfl) ?_
          obtain ⟨hg68, h⟩ := of_guard h
          refine al_M_7 C hI (f := p10.2.2 7) rfl hg68 d_Mod_kindAt_68 ?_
          obtain ⟨hg69, h⟩ := of_guard h
          refine al_M_0 C hI (f := p10.2.2 0) rfl hg69 d_Mod_kindAt_69 ?_
          obtain ⟨p70, hp70, h⟩ := of_bind h
          refine rb_callSI smok C (c_Mod_below hp70) cw_Mod_69 ⟨Nat.le_of_ble_eq_true rfl, Nat.le_of_ble_eq_true rfl⟩ ⟨rfl, rfl⟩ hI ⟨Nat.zero_le _, Nat.zero_le _⟩ (As := [.int x2, .int ((p10.2.2 0) ((p10.2.2 7) ((p10.2.2 9) (((4 : Int32) * (p10.2.1 9)) + x1).toNatClampNeg).toNatClampNeg).toNatClampNeg)]) rfl hl.1 (rest := []) (Nat.le_of_ble_eq_true rfl) rfl d_Mod_kindAt_70 (fun H locs hI => ?_)
          refine lv_if_ne (tgt := 78) hx hb d_Mod_kindAt_73 (by decide) (fun hc => ?_) (fun hc => ?_)
          · replace h := of_neg hc h
            refine lv_aload_n hx hb d_Mod_kindAt_78 rfl (lv_at hl 1 rfl) ?_
            refine gf_Mod_37 C hI d_Mod_kindAt_79 ?_
            refine lv_iconst (v := 4) hx hb d_Mod_kindAt_82 (by decide) ?_
            refine lv_iload_n hx hb d_Mod_kindAt_83 rfl (lv_at hl 0 rfl) ?_
            refine lv_imul hx hb d_Mod_kindAt_84 ?_
            refine lv_iload_n hx hb d_Mod_kindAt_85 rfl (lv_at hl 3 rfl) ?_
            refine lv_iadd hx hb d_Mod_kindAt_86 ?_
            obtain ⟨hg87, h⟩ := of_guard h
            refine al_M_9 C hI (f := p70.2.2 9) rfl hg87 d_Mod_kindAt_87 ?_
            refine lv_istore (lv' := [(4, .int ((p70.2.2 9) (((4 : Int32) * ((p10.2.2 9) (((4 : Int32) * (p10.2.1 9)) + x1).toNatClampNeg)) + x2).toNatClampNeg)), (3, .int ((p10.2.2 9) (((4 : Int32) * (p10.2.1 9)) + x1).toNatClampNeg)), (0, .ref (a 0)), (1, .int x1), (2, .int x2)]) hx hb d_Mod_kindAt_88 hl (by decide) rfl (fun ls hl => ?_)
            refine lv_iload hx hb d_Mod_kindAt_90 (lv_at hl 0 rfl) ?_
            refine lv_iconst (v := (-1)) hx hb d_Mod_kindAt_92 (by decide) ?_
            refine lv_icmp_ne (tgt := 100) hx hb d_Mod_kindAt_93 (by decide) (fun hc => ?_) (fun hc => ?_)
            · replace h := of_neg hc h
              refine lv_aload_n hx hb d_Mod_kindAt_100 rfl (lv_at hl 2 rfl) ?_
              refine gf_Mod_31 C hI d_Mod_kindAt_101 ?_
              refine lv_iload hx hb d_Mod_kindAt_104 (lv_at hl 0 rfl) ?_
              obtain ⟨hg106, h⟩ := of_guard h
              refine al_M_7 C hI (f := p70.2.2 7) rfl hg106 d_Mod_kindAt_106 ?_
              replace h := Option.some.inj h
              subst h
              exact rb_retI C hr hI d_Mod_kindAt_107
            · replace h := of_pos hc h
              refine lv_iconst (v := (-1)) hx hb d_Mod_kindAt_96 (by decide) ?_
              refine lv_goto (tgt := 107) hx hb d_Mod_kindAt_97 (by decide) ?_
              replace h := Option.some.inj h
              subst h
              exact rb_retI C hr hI d_Mod_kindAt_107
          · replace h := of_pos hc h
            refine lv_iconst (v := (-1)) hx hb d_Mod_kindAt_76 (by decide) ?_
            replace h := Option.some.inj h
            subst h
            exact rb_retI C hr hI d_Mod_kindAt_77
        · replace h := of_pos hc h
          exact j_Mod_kindAt_J42 C hr h (lv_sub hl [1, 0] rfl) hI
    · replace h := of_pos hc h
      refine lv_iconst (v := (-1)) hx hb d_Mod_kindAt_16 (by decide) ?_
      replace h := Option.some.inj h
      subst h
      exact rb_retI C hr hI d_Mod_kindAt_17
theorem d_Mod_number_0 : decode b_Mod_number 0 = .ok (.aload_n 0, 1) := by decide +kernel
theorem d_Mod_number_1 : decode b_Mod_number 1 = .ok (.getfield 53, 3) := by decide +kernel
theorem d_Mod_number_4 : decode b_Mod_number 4 = .ok (.iconst 4, 1) := by decide +kernel
theorem d_Mod_number_5 : decode b_Mod_number 5 = .ok (.if_icmp .eq 11, 3) := by decide +kernel
theorem d_Mod_number_8 : decode b_Mod_number 8 = .ok (.iload_n 1, 1) := by decide +kernel
theorem d_Mod_number_9 : decode b_Mod_number 9 = .ok (.iconst 4, 1) := by decide +kernel
theorem d_Mod_number_10 : decode b_Mod_number 10 = .ok (.invokestatic 69, 3) := by decide +kernel
theorem d_Mod_number_13 : decode b_Mod_number 13 = .ok (.ifCond .ne 7, 3) := by decide +kernel
theorem d_Mod_number_16 : decode b_Mod_number 16 = .ok (.iconst 0, 1) := by decide +kernel
theorem d_Mod_number_17 : decode b_Mod_number 17 = .ok (.goto 16, 3) := by decide +kernel
theorem d_Mod_number_20 : decode b_Mod_number 20 = .ok (.aload_n 0, 1) := by decide +kernel
theorem d_Mod_number_21 : decode b_Mod_number 21 = .ok (.getfield 40, 3) := by decide +kernel
theorem d_Mod_number_24 : decode b_Mod_number 24 = .ok (.iconst 4, 1) := by decide +kernel
theorem d_Mod_number_25 : decode b_Mod_number 25 = .ok (.aload_n 0, 1) := by decide +kernel
theorem d_Mod_number_26 : decode b_Mod_number 26 = .ok (.getfield 120, 3) := by decide +kernel
theorem d_Mod_number_29 : decode b_Mod_number 29 = .ok (.imul, 1) := by decide +kernel
theorem d_Mod_number_30 : decode b_Mod_number 30 = .ok (.iload_n 1, 1) := by decide +kernel
theorem d_Mod_number_31 : decode b_Mod_number 31 = .ok (.iadd, 1) := by decide +kernel
theorem d_Mod_number_32 : decode b_Mod_number 32 = .ok (.iaload, 1) := by decide +kernel
theorem d_Mod_number_33 : decode b_Mod_number 33 = .ok (.ireturn, 1) := by decide +kernel
abbrev rm_Mod_number : Room := { frames := 1, cells := 0, slots := 0, locals := 21 }
set_option maxHeartbeats 4000000 in
set_option maxRecDepth 100000 in
theorem c_Mod_number {l : Launch} {dC : Nat → ClassId} {dI : Nat → Nat → Nat} {a : Nat → Nat} {cI cZ : ClassId} {σ : St} {x1 : Int32} {q : Int32 × St} (h : fMod_number σ x1 = some q) : CI l (dC, dI) clA (tyM cI cZ) SXm (wM a cI cZ σ) (wM a cI cZ q.2) y_Mod_number b_Mod_number 2 (some .int) rm_Mod_number [.ref (a 0), .int x1] q.1 := by
  refine CI_of (by decide) (Nat.le_of_ble_eq_true rfl) ?_
  intro pr e s m below meth c A ls C hr hl hI
  have hx := C.1
  have hb := C.2.1
  have hl : lv_has ls 2 [(0, .ref (a 0)), (1, .int x1)] := hl
  unfold fMod_number at h
  refine lv_aload_n hx hb d_Mod_number_0 rfl (lv_at hl 0 rfl) ?_
  refine gf_Mod_53 C hI (v := σ.1 12) rfl d_Mod_number_1 ?_
  refine lv_iconst (v := 4) hx hb d_Mod_number_4 (by decide) ?_
  refine lv_icmp_eq (tgt := 16) hx hb d_Mod_number_5 (by decide) (fun hc => ?_) (fun hc => ?_)
  · replace h := of_pos hc h
    refine lv_iconst (v := 0) hx hb d_Mod_number_16 (by decide) ?_
    refine lv_goto (tgt := 33) hx hb d_Mod_number_17 (by decide) ?_
    replace h := Option.some.inj h
    subst h
    exact rb_retI C hr hI d_Mod_number_33
  · replace h := of_neg hc h
    refine lv_iload_n hx hb d_Mod_number_8 rfl (lv_at hl 1 rfl) ?_
    refine lv_iconst (v := 4) hx hb d_Mod_number_9 (by decide) ?_
    obtain ⟨p10, hp10, h⟩ := of_bind h
    refine rb_callSI smok C (c_Mod_below hp10) cw_Mod_69 ⟨Nat.le_of_ble_eq_true rfl, Nat.le_of_ble_eq_true rfl⟩ ⟨rfl, rfl⟩ hI ⟨Nat.zero_le _, Nat.zero_le _⟩ (As := [.int x1, .int 4]) rfl hl.1 (rest := []) (Nat.le_of_ble_eq_true rfl) rfl d_Mod_number_10 (fun H locs hI => ?_)
    refine lv_if_ne (tgt := 20) hx hb d_Mod_number_13 (by decide) (fun hc => ?_) (fun hc => ?_)
    · replace h := of_neg hc h
      refine lv_aload_n hx hb d_Mod_number_20 rfl (lv_at hl 0 rfl) ?_
      refine gf_Mod_40 C hI d_Mod_number_21 ?_
      refine lv_iconst (v := 4) hx hb d_Mod_number_24 (by decide) ?_
      refine lv_aload_n hx hb d_Mod_number_25 rfl (lv_at hl 0 rfl) ?_
      refine gf_Mod_120 C hI (v := p10.2.1 9) rfl d_Mod_number_26 ?_
      refine lv_imul hx hb d_Mod_number_29 ?_
      refine lv_iload_n hx hb d_Mod_number_30 rfl (lv_at hl 1 rfl) ?_
      refine lv_iadd hx hb d_Mod_number_31 ?_
      obtain ⟨hg32, h⟩ := of_guard h
      refine al_M_10 C hI (f := p10.2.2 10) rfl hg32 d_Mod_number_32 ?_
      replace h := Option.some.inj h
      subst h
      exact rb_retI C hr hI d_Mod_number_33
    · replace h := of_pos hc h
      refine lv_iconst (v := 0) hx hb d_Mod_number_16 (by decide) ?_
      refine lv_goto (tgt := 33) hx hb d_Mod_number_17 (by decide) ?_
      replace h := Option.some.inj h
      subst h
      exact rb_retI C hr hI d_Mod_number_33
