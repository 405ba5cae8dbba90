theorem tm_8 : (Jvm.Cond.classLink "ReadBarrierMachineLaw" (7 : Nat) "ReadBarrierMachine") ∈ wsG := rb_tin (List.mem_of_getElem? (i := 8) (by decide +kernel)) rfl
theorem tm_9 : (Jvm.Cond.instantiable "ReadBarrierMachine" (10 : Nat)) ∈ wsG := rb_tin (List.mem_of_getElem? (i := 9) (by decide +kernel)) rfl
theorem tm_524 : (Jvm.Cond.classLink "ReadBarrierMachineLaw" (18 : Nat) "ReadBarrierMachineModel") ∈ wsG := rb_tin (List.mem_of_getElem? (i := 524) (by decide +kernel)) rfl
theorem tm_525 : (Jvm.Cond.instantiable "ReadBarrierMachineModel" (33 : Nat)) ∈ wsG := rb_tin (List.mem_of_getElem? (i := 525) (by decide +kernel)) rfl
set_option maxHeartbeats 4000000 in
set_option maxRecDepth 100000 in
theorem start_of {p : Program} {e : Env} {s : State} {m : MethodId} {below : List Frame} {meth : Method} {c : Code} (l : Launch) {b L : Nat} {xs : Nat → Int32} (HR : ∀ (x1 x2 : Int32) (n : Nat), 24 ≤ n → n ≤ 120 → lmt x1 = nI n → ∃ Rel : St → St → Prop, Sims (2 * n) Rel ∧ Rel (sg0 x1 x2) (sg1 x1 x2)) (hL : L ≤ 2562) (C0 : lw_At p s m meth c b L xs) : W p l e room_1 s m #[Value.ref b] below meth c s.heap [] 0 0 (lw_Z below #[Value.ref b] s) (entryFrame m ([Value.ref b] : List Value).toArray 4) := by
  obtain ⟨hx, hb, hr, hml, hown, hts0, hX, hbl, hlocks, hgv⟩ := C0
  have hts : ∀ w ∈ wsG, w.before #[Value.ref b] s = true := fun w h => hts0 w (List.mem_filter.mp h).1
  obtain ⟨c0, i0, k0⟩ := u_known (C := R_Mach) (T := F_Mach) (N := 10) (n := 10) hts in_Mach (hts _ tm_9)
  obtain ⟨c1, i1, k1⟩ := u_known (C := R_Kinds) (T := F_Kinds) (N := 4) (n := 4) hts in_Kinds (hts _ tm_17)
  obtain ⟨c2, i2, k2⟩ := u_known (C := R_Meths) (T := F_Meths) (N := 8) (n := 8) hts in_Meths (hts _ tm_37)
  obtain ⟨c3, i3, k3⟩ := u_known (C := R_Room) (T := F_Room) (N := 15) (n := 15) hts in_Room (hts _ tm_74)
  obtain ⟨c4, i4, k4⟩ := u_known (C := R_Mod) (T := F_Mod) (N := 33) (n := 33) hts in_Mod (hts _ tm_525)
  obtain ⟨cI, kI, pI, aI1, aI2, aI3⟩ := Cond.arrayClass_spec (type := .int) (hts _ tm_35)
  obtain ⟨cZ, kZ, pZ, aZ1, aZ2, aZ3⟩ := Cond.arrayClass_spec (type := .boolean) (hts _ tm_630)
  have hK : va_K ((fun i => match i with | 0 => c0 | 1 => c1 | 2 => c2 | 3 => c3 | _ => c4), (fun i => match i with | 0 => i0 | 1 => i1 | 2 => i2 | 3 => i3 | _ => i4)) clA (tyM cI cZ) s := by
    refine ⟨fun c q hq => ?_, fun k q hq => ?_⟩
    · match c, hq with
      | 0, hq => cases hq; exact k0
      | 1, hq => cases hq; exact k1
      | 2, hq => cases hq; exact k2
      | 3, hq => cases hq; exact k3
      | 4, hq => cases hq; exact k4
      | c + 5, hq => cases hq
    · match k, hq with
      | 0, hq => cases hq; exact ⟨fun n z => ⟨fun k h => (by cases h), kI, aI2, pI, aI3⟩, aI1⟩
      | 1, hq => cases hq; exact ⟨fun n z => ⟨fun k h => (by cases h), kZ, aZ2, pZ, aZ3⟩, aZ1⟩
      | k + 2, hq => cases hq
  have hs := flat_of_before _ hgv
  have hAn : ∀ a : Nat, a < s.heap.size → ¬ (fun q => s.heap.size ≤ q) a := fun a h => Nat.not_le.mpr h
  have he0 : ∀ j : Nat, j < 16 → (Term.elem (Term.static "ReadBarrierMachine" "NAMES_X" "[I") (.int (Int32.ofNat j))).eval #[Value.ref b] s none [] s = some (.int (tX0 j)) := fun j hj => match j, hj with
    | 0, _ => va_eqt (hs (Cond.eq (.elem (Term.static "ReadBarrierMachine" "NAMES_X" "[I") (.int 0)) (.int 1)) (by decide +kernel))
    | 1, _ => va_eqt (hs (Cond.eq (.elem (Term.static "ReadBarrierMachine" "NAMES_X" "[I") (.int 1)) (.int 1)) (by decide +kernel))
    | 2, _ => va_eqt (hs (Cond.eq (.elem (Term.static "ReadBarrierMachine" "NAMES_X" "[I") (.int 2)) (.int 1)) (by decide +kernel))
    | 3, _ => va_eqt (hs (Cond.eq (.elem (Term.static "ReadBarrierMachine" "NAMES_X" "[I") (.int 3)) (.int 1)) (by decide +kernel))
    | 4, _ => va_eqt (hs (Cond.eq (.elem (Term.static "ReadBarrierMachine" "NAMES_X" "[I") (.int 4)) (.int 1)) (by decide +kernel))
    | 5, _ => va_eqt (hs (Cond.eq (.elem (Term.static "ReadBarrierMachine" "NAMES_X" "[I") (.int 5)) (.int 1)) (by decide +kernel))
    | 6, _ => va_eqt (hs (Cond.eq (.elem (Term.static "ReadBarrierMachine" "NAMES_X" "[I") (.int 6)) (.int 1)) (by decide +kernel))
    | 7, _ => va_eqt (hs (Cond.eq (.elem (Term.static "ReadBarrierMachine" "NAMES_X" "[I") (.int 7)) (.int 1)) (by decide +kernel))
    | 8, _ => va_eqt (hs (Cond.eq (.elem (Term.static "ReadBarrierMachine" "NAMES_X" "[I") (.int 8)) (.int 1)) (by decide +kernel))
    | 9, _ => va_eqt (hs (Cond.eq (.elem (Term.static "ReadBarrierMachine" "NAMES_X" "[I") (.int 9)) (.int 0)) (by decide +kernel))
    | 10, _ => va_eqt (hs (Cond.eq (.elem (Term.static "ReadBarrierMachine" "NAMES_X" "[I") (.int 10)) (.int 1)) (by decide +kernel))
    | 11, _ => va_eqt (hs (Cond.eq (.elem (Term.static "ReadBarrierMachine" "NAMES_X" "[I") (.int 11)) (.int 1)) (by decide +kernel))
    | 12, _ => va_eqt (hs (Cond.eq (.elem (Term.static "ReadBarrierMachine" "NAMES_X" "[I") (.int 12)) (.int 1)) (by decide +kernel))
    | 13, _ => va_eqt (hs (Cond.eq (.elem (Term.static "ReadBarrierMachine" "NAMES_X" "[I") (.int 13)) (.int 1)) (by decide +kernel))
    | 14, _ => va_eqt (hs (Cond.eq (.elem (Term.static "ReadBarrierMachine" "NAMES_X" "[I") (.int 14)) (.int 1)) (by decide +kernel))
    | 15, _ => va_eqt (hs (Cond.eq (.elem (Term.static "ReadBarrierMachine" "NAMES_X" "[I") (.int 15)) (.int 1)) (by decide +kernel))
    | j + 16, h => absurd h (by omega)
  obtain ⟨t0, ht0, hT0⟩ := va_Tof (tm := (Term.static "ReadBarrierMachine" "NAMES_X" "[I")) (ty := .int) (N := 16) (f := fun j => .int (tX0 j)) (A := fun q => s.heap.size ≤ q) (by decide) (hs (Cond.arrayOf (Term.static "ReadBarrierMachine" "NAMES_X" "[I") .int) (by decide +kernel)) (va_eqt (hs (Cond.eq (.length (Term.static "ReadBarrierMachine" "NAMES_X" "[I")) (.int 16)) (by decide +kernel))) he0 hAn
  have hZ0 := va_Zof (A := fun q => s.heap.size ≤ q) (hts0 (Cond.laysStatic "ReadBarrierMachine" "NAMES_X" "[I") (List.mem_append_right _ (List.mem_of_getElem? (i := 217) (by decide +kernel)))) (hts _ tm_1) ht0 hAn
  have he1 : ∀ j : Nat, j < 16 → (Term.elem (Term.static "ReadBarrierMachine" "NAMES_Y" "[I") (.int (Int32.ofNat j))).eval #[Value.ref b] s none [] s = some (.int (tX1 j)) := fun j hj => match j, hj with
    | 0, _ => va_eqt (hs (Cond.eq (.elem (Term.static "ReadBarrierMachine" "NAMES_Y" "[I") (.int 0)) (.int 0)) (by decide +kernel))
    | 1, _ => va_eqt (hs (Cond.eq (.elem (Term.static "ReadBarrierMachine" "NAMES_Y" "[I") (.int 1)) (.int 1)) (by decide +kernel))
    | 2, _ => va_eqt (hs (Cond.eq (.elem (Term.static "ReadBarrierMachine" "NAMES_Y" "[I") (.int 2)) (.int 0)) (by decide +kernel))
    | 3, _ => va_eqt (hs (Cond.eq (.elem (Term.static "ReadBarrierMachine" "NAMES_Y" "[I") (.int 3)) (.int 1)) (by decide +kernel))
    | 4, _ => va_eqt (hs (Cond.eq (.elem (Term.static "ReadBarrierMachine" "NAMES_Y" "[I") (.int 4)) (.int 0)) (by decide +kernel))
    | 5, _ => va_eqt (hs (Cond.eq (.elem (Term.static "ReadBarrierMachine" "NAMES_Y" "[I") (.int 5)) (.int 1)) (by decide +kernel))
    | 6, _ => va_eqt (hs (Cond.eq (.elem (Term.static "ReadBarrierMachine" "NAMES_Y" "[I") (.int 6)) (.int 1)) (by decide +kernel))
    | 7, _ => va_eqt (hs (Cond.eq (.elem (Term.static "ReadBarrierMachine" "NAMES_Y" "[I") (.int 7)) (.int 1)) (by decide +kernel))
    | 8, _ => va_eqt (hs (Cond.eq (.elem (Term.static "ReadBarrierMachine" "NAMES_Y" "[I") (.int 8)) (.int 1)) (by decide +kernel))
    | 9, _ => va_eqt (hs (Cond.eq (.elem (Term.static "ReadBarrierMachine" "NAMES_Y" "[I") (.int 9)) (.int 0)) (by decide +kernel))
    | 10, _ => va_eqt (hs (Cond.eq (.elem (Term.static "ReadBarrierMachine" "NAMES_Y" "[I") (.int 10)) (.int 0)) (by decide +kernel))
    | 11, _ => va_eqt (hs (Cond.eq (.elem (Term.static "ReadBarrierMachine" "NAMES_Y" "[I") (.int 11)) (.int 0)) (by decide +kernel))
    | 12, _ => va_eqt (hs (Cond.eq (.elem (Term.static "ReadBarrierMachine" "NAMES_Y" "[I") (.int 12)) (.int 1)) (by decide +kernel))
    | 13, _ => va_eqt (hs (Cond.eq (.elem (Term.static "ReadBarrierMachine" "NAMES_Y" "[I") (.int 13)) (.int 1)) (by decide +kernel))
    | 14, _ => va_eqt (hs (Cond.eq (.elem (Term.static "ReadBarrierMachine" "NAMES_Y" "[I") (.int 14)) (.int 0)) (by decide +kernel))
    | 15, _ => va_eqt (hs (Cond.eq (.elem (Term.static "ReadBarrierMachine" "NAMES_Y" "[I") (.int 15)) (.int 0)) (by decide +kernel))
    | j + 16, h => absurd h (by omega)
  obtain ⟨t1, ht1, hT1⟩ := va_Tof (tm := (Term.static "ReadBarrierMachine" "NAMES_Y" "[I")) (ty := .int) (N := 16) (f := fun j => .int (tX1 j)) (A := fun q => s.heap.size ≤ q) (by decide) (hs (Cond.arrayOf (Term.static "ReadBarrierMachine" "NAMES_Y" "[I") .int) (by decide +kernel)) (va_eqt (hs (Cond.eq (.length (Term.static "ReadBarrierMachine" "NAMES_Y" "[I")) (.int 16)) (by decide +kernel))) he1 hAn
  have hZ1 := va_Zof (A := fun q => s.heap.size ≤ q) (hts0 (Cond.laysStatic "ReadBarrierMachine" "NAMES_Y" "[I") (List.mem_append_right _ (List.mem_of_getElem? (i := 222) (by decide +kernel)))) (hts _ tm_1) ht1 hAn
  have he2 : ∀ j : Nat, j < 16 → (Term.elem (Term.static "ReadBarrierMachine" "Z_VALUES" "[I") (.int (Int32.ofNat j))).eval #[Value.ref b] s none [] s = some (.int (tX2 j)) := fun j hj => match j, hj with
    | 0, _ => va_eqt (hs (Cond.eq (.elem (Term.static "ReadBarrierMachine" "Z_VALUES" "[I") (.int 0)) (.int (-1))) (by decide +kernel))
    | 1, _ => va_eqt (hs (Cond.eq (.elem (Term.static "ReadBarrierMachine" "Z_VALUES" "[I") (.int 1)) (.int 3)) (by decide +kernel))
    | 2, _ => va_eqt (hs (Cond.eq (.elem (Term.static "ReadBarrierMachine" "Z_VALUES" "[I") (.int 2)) (.int 4)) (by decide +kernel))
    | 3, _ => va_eqt (hs (Cond.eq (.elem (Term.static "ReadBarrierMachine" "Z_VALUES" "[I") (.int 3)) (.int (-1))) (by decide +kernel))
    | 4, _ => va_eqt (hs (Cond.eq (.elem (Term.static "ReadBarrierMachine" "Z_VALUES" "[I") (.int 4)) (.int (-1))) (by decide +kernel))
    | 5, _ => va_eqt (hs (Cond.eq (.elem (Term.static "ReadBarrierMachine" "Z_VALUES" "[I") (.int 5)) (.int 3)) (by decide +kernel))
    | 6, _ => va_eqt (hs (Cond.eq (.elem (Term.static "ReadBarrierMachine" "Z_VALUES" "[I") (.int 6)) (.int 3)) (by decide +kernel))
    | 7, _ => va_eqt (hs (Cond.eq (.elem (Term.static "ReadBarrierMachine" "Z_VALUES" "[I") (.int 7)) (.int 3)) (by decide +kernel))
    | 8, _ => va_eqt (hs (Cond.eq (.elem (Term.static "ReadBarrierMachine" "Z_VALUES" "[I") (.int 8)) (.int 3)) (by decide +kernel))
    | 9, _ => va_eqt (hs (Cond.eq (.elem (Term.static "ReadBarrierMachine" "Z_VALUES" "[I") (.int 9)) (.int 12)) (by decide +kernel))
    | 10, _ => va_eqt (hs (Cond.eq (.elem (Term.static "ReadBarrierMachine" "Z_VALUES" "[I") (.int 10)) (.int 12)) (by decide +kernel))
    | 11, _ => va_eqt (hs (Cond.eq (.elem (Term.static "ReadBarrierMachine" "Z_VALUES" "[I") (.int 11)) (.int 12)) (by decide +kernel))
    | 12, _ => va_eqt (hs (Cond.eq (.elem (Term.static "ReadBarrierMachine" "Z_VALUES" "[I") (.int 12)) (.int 4)) (by decide +kernel))
    | 13, _ => va_eqt (hs (Cond.eq (.elem (Term.static "ReadBarrierMachine" "Z_VALUES" "[I") (.int 13)) (.int (-1))) (by decide +kernel))
    | 14, _ => va_eqt (hs (Cond.eq (.elem (Term.static "ReadBarrierMachine" "Z_VALUES" "[I") (.int 14)) (.int (-1))) (by decide +kernel))
    | 15, _ => va_eqt (hs (Cond.eq (.elem (Term.static "ReadBarrierMachine" "Z_VALUES" "[I") (.int 15)) (.int (-1))) (by decide +kernel))
    | j + 16, h => absurd h (by omega)
  obtain ⟨t2, ht2, hT2⟩ := va_Tof (tm := (Term.static "ReadBarrierMachine" "Z_VALUES" "[I")) (ty := .int) (N := 16) (f := fun j => .int (tX2 j)) (A := fun q => s.heap.size ≤ q) (by decide) (hs (Cond.arrayOf (Term.static "ReadBarrierMachine" "Z_VALUES" "[I") .int) (by decide +kernel)) (va_eqt (hs (Cond.eq (.length (Term.static "ReadBarrierMachine" "Z_VALUES" "[I")) (.int 16)) (by decide +kernel))) he2 hAn
  have hZ2 := va_Zof (A := fun q => s.heap.size ≤ q) (hts0 (Cond.laysStatic "ReadBarrierMachine" "Z_VALUES" "[I") (List.mem_append_right _ (List.mem_of_getElem? (i := 224) (by decide +kernel)))) (hts _ tm_1) ht2 hAn
  have nF : ∀ q ∈ nestF, Cond.fieldLinkNest q.1 q.2.1 q.2.2.1 q.2.2.2.1 q.2.2.2.2.1 q.2.2.2.2.2 ∈ tables_1 := by decide +kernel
  have nM : ∀ q ∈ nestM, Cond.methodLinkNest q.1 q.2.1 q.2.2.1 q.2.2.2 ∈ tables_1 := by decide +kernel
  have hSX : SXx (fun i => match i with | 0 => t0 | 1 => t1 | _ => t2) (fun q => s.heap.size ≤ q) s := ⟨fun q hq => va_Nw.of rfl (hts0 _ (List.mem_append_right _ (nF q hq))), fun q hq => va_Nw.of rfl (hts0 _ (List.mem_append_right _ (nM q hq))), ⟨hZ0, hT0⟩, ⟨hZ1, hT1⟩, ⟨hZ2, hT2⟩⟩
  generalize (fun i => match i with | 0 => t0 | 1 => t1 | _ => t2 : Nat → Nat) = tt at hSX
  generalize (fun i => match i with | 0 => c0 | 1 => c1 | 2 => c2 | 3 => c3 | _ => c4 : Nat → ClassId) = dC at hK
  generalize (fun i => match i with | 0 => i0 | 1 => i1 | 2 => i2 | 3 => i3 | _ => i4 : Nat → Nat → Nat) = dI at hK
  have C : Cx (dC, dI) clA (tyM cI cZ) (SXl tt b L xs) p s m #[Value.ref b] meth c code 4 R_Law (fun q => s.heap.size ≤ q) := ⟨hx, hb, hml, hown, hts, hK, fun q h => h, ⟨hSX, hX, hbl, Nat.not_le.mpr hbl⟩, hlocks⟩
  have hl := lv_entry [Value.ref b] (n := 4) (Nat.le_of_ble_eq_true rfl)
  rw [lg_entry_eq]
  generalize (lg_sl ([Value.ref b]) ++ List.replicate (4 - (lg_sl ([Value.ref b])).length) Slot.unset).toArray = ls at hl ⊢
  have hl : lv_has ls 4 [(0, .ref b)] := hl
  have hI : Wi (dC, dI) clA [] s (fun q => s.heap.size ≤ q) s.heap [] := ⟨fun k q h => by simp at h, ⟨fun i j p q h => by simp at h, fun k q h => by simp at h⟩, va_S.rf⟩
  refine rb_newC C hI (ci := 0) (fs := [.null, .null, .null, .null, .int 0, .int 0, .int 0, .int 0, .int 0, .int 0]) in_Mach t_Mach t_Mach_ok tm_8 tm_9 tm_1 rfl df_Mach (Nat.le_of_ble_eq_true rfl) (Nat.le_of_ble_eq_true rfl) d_Law_law_0 (fun q1 H hI => ?_)
  have hI : Wi (dC, dI) clA [(q1, .inr (0, [.null, .null, .null, .null, .int 0, .int 0, .int 0, .int 0, .int 0, .int 0]))] s (fun q => s.heap.size ≤ q) H _ := hI
  refine lv_dup hx hb d_Law_law_3 rfl ?_
  refine lv_aload_n hx hb d_Law_law_4 rfl (lv_at hl 0 rfl) ?_
  refine lv_iconst (v := 0) hx hb d_Law_law_5 (by decide) ?_
  refine rb_callS0 slok scok C.2.2.2.2.2.2.2.1.2 C (c_Law_cell (k := 0) (by decide) hL) cw_Law_9 ⟨Nat.le_of_ble_eq_true rfl, Nat.le_of_ble_eq_true rfl⟩ ⟨rfl, rfl⟩ hI ⟨Nat.le_of_ble_eq_true rfl, Nat.le_of_ble_eq_true rfl⟩ (As := [.ref b, .int 0]) rfl hl.1 (rest := [.ref q1, .ref q1]) (Nat.le_of_ble_eq_true rfl) rfl d_Law_law_6 (fun H locs hI => ?_)
  refine lv_aload_n hx hb d_Law_law_9 rfl (lv_at hl 0 rfl) ?_
  refine lv_iconst (v := 1) hx hb d_Law_law_10 (by decide) ?_
  refine rb_callS0 slok scok C.2.2.2.2.2.2.2.1.2 C (c_Law_cell (k := 1) (by decide) hL) cw_Law_9 ⟨Nat.le_of_ble_eq_true rfl, Nat.le_of_ble_eq_true rfl⟩ ⟨rfl, rfl⟩ hI ⟨Nat.le_of_ble_eq_true rfl, Nat.le_of_ble_eq_true rfl⟩ (As := [.ref b, .int 1]) rfl hl.1 (rest := [.int (cellv L xs 0), .ref q1, .ref q1]) (Nat.le_of_ble_eq_true rfl) rfl d_Law_law_11 (fun H locs hI => ?_)
  refine rb_callK slok sxok C.2.2.2.2.2.2.2.1.1 C (c_Mach_init (h := q1)) ck_Law_15 ⟨Nat.le_of_ble_eq_true rfl, Nat.le_of_ble_eq_true rfl⟩ ⟨rfl, rfl⟩ [0] [] (wr := []) rfl rfl rfl (by decide) (by decide) (by decide) hI ⟨Nat.le_of_ble_eq_true rfl, Nat.le_of_ble_eq_true rfl⟩ (As := [.int (cellv L xs 0), .int (cellv L xs 1)]) rfl hl.1 (rest := [.ref q1]) (Nat.le_of_ble_eq_true rfl) rfl d_Law_law_14 (fun u H locs hu hI => ?_)
  obtain ⟨a, n, ha, hn1, hn2, hn3, rfl⟩ := hu
  have hI : Wi (dC, dI) clA (wX a cI (2 * n) (sg0 (cellv L xs 0) (cellv L xs 1))) s (fun q => s.heap.size ≤ q) H locs := hI
  refine lv_astore_n (lv' := [(1, .ref q1), (0, .ref b)]) hx hb d_Law_law_17 rfl hl (by decide) rfl (fun ls hl => ?_)
  refine rb_newC C hI (ci := 4) (fs := [.int 0, .int 0, .int 0, .null, .null, .null, .int 0, .int 0, .null, .null, .null, .null, .null, .null, .null, .null, .int 0, .null, .int 0, .int 0, .int 0, .null, .null, .int 0, .int 0, .int 0, .int 0, .int 0, .int 0, .int 0, .null, .int 0, .int 0]) in_Mod t_Mod t_Mod_ok tm_524 tm_525 tm_6 rfl df_Mod (Nat.le_of_ble_eq_true rfl) (Nat.le_of_ble_eq_true rfl) d_Law_law_18 (fun q2 H hI => ?_)
  refine lv_dup hx hb d_Law_law_21 rfl ?_
  refine lv_aload_n hx hb d_Law_law_22 rfl (lv_at hl 1 rfl) ?_
  refine lv_iconst (v := 0) hx hb d_Law_law_23 (by decide) ?_
  refine rb_callS0 slok scok C.2.2.2.2.2.2.2.1.2 C (c_Law_cell (k := 0) (by decide) hL) cw_Law_9 ⟨Nat.le_of_ble_eq_true rfl, Nat.le_of_ble_eq_true rfl⟩ ⟨rfl, rfl⟩ hI ⟨Nat.le_of_ble_eq_true rfl, Nat.le_of_ble_eq_true rfl⟩ (As := [.ref b, .int 0]) rfl hl.1 (rest := [.ref q2, .ref q2]) (Nat.le_of_ble_eq_true rfl) rfl d_Law_law_24 (fun H locs hI => ?_)
  refine lv_aload_n hx hb d_Law_law_27 rfl (lv_at hl 1 rfl) ?_
  refine lv_iconst (v := 1) hx hb d_Law_law_28 (by decide) ?_
  refine rb_callS0 slok scok C.2.2.2.2.2.2.2.1.2 C (c_Law_cell (k := 1) (by decide) hL) cw_Law_9 ⟨Nat.le_of_ble_eq_true rfl, Nat.le_of_ble_eq_true rfl⟩ ⟨rfl, rfl⟩ hI ⟨Nat.le_of_ble_eq_true rfl, Nat.le_of_ble_eq_true rfl⟩ (As := [.ref b, .int 1]) rfl hl.1 (rest := [.int (cellv L xs 0), .ref q2, .ref q2]) (Nat.le_of_ble_eq_true rfl) rfl d_Law_law_29 (fun H locs hI => ?_)
  refine rb_callK slok smok trivial C (c_Mod_init (h := q2)) ck_Law_20 ⟨Nat.le_of_ble_eq_true rfl, Nat.le_of_ble_eq_true rfl⟩ ⟨rfl, rfl⟩ [17] [0, 1, 2, 3, 4, 5, 6, 7, 8, 9, 10, 11, 12, 13, 14, 15, 16] (wr := wX a cI (2 * n) (sg0 (cellv L xs 0) (cellv L xs 1))) rfl rfl rfl (by decide) (by decide) (by decide) hI ⟨Nat.le_of_ble_eq_true rfl, Nat.le_of_ble_eq_true rfl⟩ (As := [.int (cellv L xs 0), .int (cellv L xs 1)]) rfl hl.1 (rest := [.ref q2]) (Nat.le_of_ble_eq_true rfl) rfl d_Law_law_32 (fun u H locs hu hI => ?_)
  obtain ⟨a2, ha2, rfl⟩ := hu
  have hJ := hI
  refine lv_astore_n (lv' := [(2, .ref q2), (1, .ref q1), (0, .ref b)]) hx hb d_Law_law_35 rfl hl (by decide) rfl (fun ls hl => ?_)
  refine lv_iconst (v := nI 2) hx hb d_Law_law_36 (by decide) ?_
  refine lv_istore_n (lv' := [(3, .int (nI 2)), (2, .ref q2), (1, .ref q1), (0, .ref b)]) hx hb d_Law_law_37 rfl hl (by decide) rfl (fun ls hl => ?_)
  subst ha
  subst ha2
  refine W.widen (k := 600000) (n := 7302250) (Nat.le_of_ble_eq_true rfl) (Nat.le_of_ble_eq_true rfl) ?_
  obtain ⟨Rel, HS, hR⟩ := HR (cellv L xs 0) (cellv L xs 1) n hn1 hn2 hn3
  exact law_loop HS C rfl hr hL (L + 6) 2 _ _ _ _ _ (by omega) (by omega) hR (lv_sub hl [3, 2, 1, 0] rfl) hJ
