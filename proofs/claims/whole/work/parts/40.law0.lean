def Sims (L : Nat) (Rel : St → St → Prop) : Prop := ∀ σ τ, Rel σ τ →
  (∀ x0 x1 x2 : Int32, ∃ p q, fMach_kind L σ x0 x1 x2 = some p ∧ fMod_kind τ x0 x1 x2 = some q ∧ p.1 = q.1 ∧ Rel p.2 q.2) ∧
  (∀ x0 x1 x2 : Int32, ∃ p q, fMach_bind L σ x0 x1 x2 = some p ∧ fMod_bind τ x0 x1 x2 = some q ∧ p.1 = q.1 ∧ Rel p.2 q.2) ∧
  (∀ x0 : Int32, ∃ p q, fMach_method L σ x0 = some p ∧ fMod_method τ x0 = some q ∧ p.1 = q.1 ∧ Rel p.2 q.2) ∧
  (∀ x0 x1 x2 x3 : Int32, ∃ p q, fMach_code L σ x0 x1 x2 x3 = some p ∧ fMod_code τ x0 x1 x2 x3 = some q ∧ p.1 = q.1 ∧ Rel p.2 q.2) ∧
  (∃ p q, fMach_seal L σ = some p ∧ fMod_seal τ = some q ∧ p.1 = q.1 ∧ Rel p.2 q.2) ∧
  (∃ p q, fMach_drop L σ = some p ∧ fMod_drop τ = some q ∧ p.1 = q.1 ∧ Rel p.2 q.2) ∧
  (∀ x0 x1 : Int32, ∃ p q, fMach_start L σ x0 x1 = some p ∧ fMod_start τ x0 x1 = some q ∧ p.1 = q.1 ∧ Rel p.2 q.2) ∧
  (∀ x0 : Int32, ∃ p q, fMach_run L σ x0 = some p ∧ fMod_run τ x0 = some q ∧ p.1 = q.1 ∧ Rel p.2 q.2) ∧
  (∃ p q, fMach_state L σ = some p ∧ fMod_state τ = some q ∧ p.1 = q.1 ∧ Rel p.2 q.2) ∧
  (∃ p q, fMach_result L σ = some p ∧ fMod_result τ = some q ∧ p.1 = q.1 ∧ Rel p.2 q.2) ∧
  (∀ x0 : Int32, ∃ p q, fMach_shown L σ x0 = some p ∧ fMod_shown τ x0 = some q ∧ p.1 = q.1 ∧ Rel p.2 q.2) ∧
  (∃ p q, fMach_work L σ = some p ∧ fMod_work τ = some q ∧ p.1 = q.1 ∧ Rel p.2 q.2) ∧
  (∃ p q, fMach_used L σ = some p ∧ fMod_used τ = some q ∧ p.1 = q.1 ∧ Rel p.2 q.2) ∧
  (∃ p q, fMach_grey L σ = some p ∧ fMod_grey τ = some q ∧ p.1 = q.1 ∧ Rel p.2 q.2) ∧
  (∃ p q, fMach_flips L σ = some p ∧ fMod_flips τ = some q ∧ p.1 = q.1 ∧ Rel p.2 q.2) ∧
  (∃ p q, fMach_depth L σ = some p ∧ fMod_depth τ = some q ∧ p.1 = q.1 ∧ Rel p.2 q.2) ∧
  (∃ p q, fMach_live L σ = some p ∧ fMod_live τ = some q ∧ p.1 = q.1 ∧ Rel p.2 q.2) ∧
  (∀ x0 x1 : Int32, ∃ p q, fMach_kindAt L σ x0 x1 = some p ∧ fMod_kindAt τ x0 x1 = some q ∧ p.1 = q.1 ∧ Rel p.2 q.2) ∧
  (∀ x0 : Int32, ∃ p q, fMach_number L σ x0 = some p ∧ fMod_number τ x0 = some q ∧ p.1 = q.1 ∧ Rel p.2 q.2)
def SXc (b L : Nat) (xs : Nat → Int32) (A : Nat → Prop) (s : State) : Prop := va_X b L xs s s.heap ∧ b < s.heap.size ∧ ¬ A b
theorem scok {b L : Nat} {xs : Nat → Int32} : SXok (SXc b L xs) := by
  refine ⟨?_, ?_⟩
  · intro A U g mk a h
    exact ⟨va_X.moved (u := U) (U := U.calling g mk a) (Vm.Alike.refl U.vm) h.1, h.2.1, h.2.2⟩
  · intro A A' s U H locs h hS hU hW hAB
    refine ⟨?_, ?_, fun z => h.2.2 (hAB b z)⟩
    · rw [hU]; exact va_X.moved hW.alike (h.1.kept (hS.2.1 b h.2.1 h.2.2))
    · rw [hU]; exact Nat.lt_of_lt_of_le h.2.1 hS.1
def SXl (tt : Nat → Nat) (b L : Nat) (xs : Nat → Int32) (A : Nat → Prop) (s : State) : Prop := SXx tt A s ∧ SXc b L xs A s
theorem slok {tt : Nat → Nat} {b L : Nat} {xs : Nat → Int32} : SXok (SXl tt b L xs) :=
  ⟨fun A U g mk a h => ⟨sxok.1 A U g mk a h.1, scok.1 A U g mk a h.2⟩, fun A A' s U H locs h hS hU hW hAB => ⟨sxok.2 A A' s U H locs h.1 hS hU hW hAB, scok.2 A A' s U H locs h.2 hS hU hW hAB⟩⟩
def cellv (L : Nat) (xs : Nat → Int32) (k : Int32) : Int32 := if Int32.ofNat L ≤ k then 0 else xs k.toNatClampNeg
theorem d_Law_cell_0 : decode b_Law_cell 0 = .ok (.iload_n 1, 1) := by decide +kernel
theorem d_Law_cell_1 : decode b_Law_cell 1 = .ok (.aload_n 0, 1) := by decide +kernel
theorem d_Law_cell_2 : decode b_Law_cell 2 = .ok (.arraylength, 1) := by decide +kernel
theorem d_Law_cell_3 : decode b_Law_cell 3 = .ok (.if_icmp .ge 9, 3) := by decide +kernel
theorem d_Law_cell_6 : decode b_Law_cell 6 = .ok (.aload_n 0, 1) := by decide +kernel
theorem d_Law_cell_7 : decode b_Law_cell 7 = .ok (.iload_n 1, 1) := by decide +kernel
theorem d_Law_cell_8 : decode b_Law_cell 8 = .ok (.iaload, 1) := by decide +kernel
theorem d_Law_cell_9 : decode b_Law_cell 9 = .ok (.goto 4, 3) := by decide +kernel
theorem d_Law_cell_12 : decode b_Law_cell 12 = .ok (.iconst 0, 1) := by decide +kernel
theorem d_Law_cell_13 : decode b_Law_cell 13 = .ok (.ireturn, 1) := by decide +kernel
abbrev rm_Law_cell : Room := { frames := 0, cells := 0, slots := 0, locals := 0 }
set_option maxHeartbeats 4000000 in
theorem c_Law_cell {l : Launch} {D : va_G} {cl : List vw_C} {tys : List (ClassId × FieldType)} {b L : Nat} {xs : Nat → Int32} {k : Int32} (h0 : ¬ k < 0) (hL : L ≤ 2562) : CI l D cl tys (SXc b L xs) [] [] y_Law_cell b_Law_cell 2 (some .int) rm_Law_cell [.ref b, .int k] (cellv L xs k) := by
  refine CI_of (by decide) (Nat.le_of_ble_eq_true rfl) ?_
  intro pr e s m below meth c A ls C hr hl hI
  have hx := C.1
  have hb := C.2.1
  have hX := C.2.2.2.2.2.2.2.1
  have hl : lv_has ls 2 [(0, .ref b), (1, .int k)] := hl
  refine lv_iload_n hx hb d_Law_cell_0 rfl (lv_at hl 1 rfl) ?_
  refine lv_aload_n hx hb d_Law_cell_1 rfl (lv_at hl 0 rfl) ?_
  refine va_slen hx hb hX.1 hX.2.1 hX.2.2 hI.2.2 d_Law_cell_2 ?_
  refine lv_icmp_ge (tgt := 12) hx hb d_Law_cell_3 (by decide) (fun hc => ?_) (fun hc => ?_)
  · refine lv_iconst (v := 0) hx hb d_Law_cell_12 (by decide) ?_
    have e1 : cellv L xs k = 0 := if_pos hc
    rw [e1]
    exact rb_retI C hr hI d_Law_cell_13
  · have e1 : cellv L xs k = xs k.toNatClampNeg := if_neg hc
    rw [e1]
    refine lv_aload_n hx hb d_Law_cell_6 rfl (lv_at hl 0 rfl) ?_
    refine lv_iload_n hx hb d_Law_cell_7 rfl (lv_at hl 1 rfl) ?_
    have hin : vp_in k L := by
      obtain ⟨j, hj, rfl⟩ := nI_of h0
      have h1 : ¬ L ≤ j := fun h => hc ((nI_leI (by omega) hj).mpr h)
      exact vp_in_nI (by omega) (by omega)
    refine va_sld hx hb hX.1 hX.2.1 hX.2.2 hI.2.2 hin d_Law_cell_8 ?_
    refine lv_goto (tgt := 13) hx hb d_Law_cell_9 (by decide) ?_
    exact rb_retI C hr hI d_Law_cell_13
section RL
variable {p : Program} {l : Launch} {e : Env} {R : Room} {s : State} {m : MethodId} {args : Array Value} {below : List Frame} {meth : Method} {c : Code} {H : Heap} {locs : List Loc} {cells slots : Nat} {Q : State → Prop}
variable {cc : ByteArray} {pc nL : Nat} {ls : Array Slot} {rest : List Value} {D : va_G} {cl : List vw_C} {A : Nat → Prop} {tys : List (ClassId × FieldType)} {SX SY : (Nat → Prop) → State → Prop} {w : va_W} {own : String} {r : Int32}
variable {y : MethodName} {b : ByteArray} {n k index : Nat} {ret : Option FieldType} {rm : Room} {As : List Value} {st : List Value}
/-- a static call that touches no cell of ours -/
theorem rb_callS0 (hSok : SXok SX) (hSY : SXok SY) (hSYs : SY A s) (C : Cx D cl tys SX p s m args meth c cc nL own A) (hM : CI l D cl tys SY [] [] y b n ret rm As r) (cw : cS own index y b n ret k) (hR : rm.frames + 1 ≤ R.frames ∧ 8 + (n + 11) + rm.locals ≤ R.locals) (hrc : rm.cells = 0 ∧ rm.slots = 0)
    (hI : Wi D cl w s A H locs) (hcs : cells ≤ R.cells ∧ slots ≤ R.slots) (hk : As.length = k) (hsize : ls.size = nL) (hrest : (rest.map fun v => v.category).sum ≤ 8) (hst : st = As.reverse ++ rest) (hdg : decode cc pc = .ok (.invokestatic index, 3))
    (kk : ∀ (H1 : Heap) (locs1 : List Loc), Wi D cl w s A H1 locs1 → W p l e R s m args below meth c H1 locs1 cells slots Q (F0 m (pc + 3) ls (.int r :: rest))) : W p l e R s m args below meth c H locs cells slots Q (F0 m pc ls st) := by
  have hpre := rb_preP hSok hSY C C.2.2.2.2.2.1 hSYs hI [] (wc := []) rfl rfl rfl As
  obtain ⟨hx, hb, hml, hown, hts, hK, hA, hSX, hlocks⟩ := C
  obtain ⟨c1, c2, c3, c5, c6⟩ := cw
  have hF : ∀ q, va_A [] H.size q → A q := fun q h => by
    rcases h with ⟨k, e, h⟩ | h
    · cases h
    · exact hA q (Nat.le_trans hI.2.2.1 h)
  have hB : CallB R s args own index y b n ret (.code y b n ret :: wsG) rm 0 0 k := callB_of k hts (rb_goodIn c1) rfl hrc.1 hrc.2 (hts _ c5) (hts _ c2) c6 hR
  subst hst
  refine va_calli (va_runS (As := As) (rest := rest) ⟨hx, hb, hml, hown, hts⟩ (hM H.size) ⟨hB, hts _ c3⟩ hpre rfl hk hsize rfl (lv_room hrest) hdg ⟨hcs.1, hcs.2⟩) hI.2.2 (fun q _ h => hF q h) hF (fun r1 u t H1 locs1 ht hvm hw hB2 hz1 hk1 hS1 => ?_)
  obtain ⟨rfl, rfl⟩ := hw
  refine kk H1 locs1 ⟨hI.1.kept (fun k q hq => ?_), hI.2.1, hS1⟩
  have hlt := (hI.1 k q hq).lt
  exact hk1 q.1 hlt (fun h => by
    rcases h with ⟨k, e, h⟩ | h
    · cases h
    · omega)
end RL
abbrev isX : List Nat := [0, 1, 2, 3, 4, 5, 6, 7, 8, 9, 10, 11, 12, 13, 14, 15, 16]
abbrev isM : List Nat := [17, 18, 19, 20, 21, 22, 23, 24, 25, 26, 27, 28, 29, 30, 31, 32]
abbrev jsM : List Nat := [0, 1, 2, 3, 4, 5, 6, 7, 8, 9, 10, 11, 12, 13, 14, 15]
abbrev jsX : List Nat := [16, 17, 18, 19, 20, 21, 22, 23, 24, 25, 26, 27, 28, 29, 30, 31, 32]
set_option maxHeartbeats 4000000 in
set_option maxRecDepth 100000 in
theorem fX1 {a a2 : Nat → Nat} {cI cZ : ClassId} {L : Nat} {σ τ : St} : isX.filterMap (fun i => (wX a cI L σ ++ wM a2 cI cZ τ)[i]?) = wX a cI L σ := rfl
set_option maxHeartbeats 4000000 in
set_option maxRecDepth 100000 in
theorem fM2 {a a2 : Nat → Nat} {cI cZ : ClassId} {L : Nat} {σ τ : St} : jsM.filterMap (fun i => (wM a2 cI cZ τ ++ wX a cI L σ)[i]?) = wM a2 cI cZ τ := rfl
set_option maxHeartbeats 4000000 in
set_option maxRecDepth 100000 in
theorem gX1 {a a2 : Nat → Nat} {cI cZ : ClassId} {L : Nat} {σ τ : St} : isX.map (fun i => (wX a cI L σ ++ wM a2 cI cZ τ)[i]?) = (wX a cI L σ).map some := rfl
set_option maxHeartbeats 4000000 in
set_option maxRecDepth 100000 in
theorem gM1 {a a2 : Nat → Nat} {cI cZ : ClassId} {L : Nat} {σ τ : St} : isM.map (fun i => (wX a cI L σ ++ wM a2 cI cZ τ)[i]?) = (wM a2 cI cZ τ).map some := rfl
set_option maxHeartbeats 4000000 in
set_option maxRecDepth 100000 in
theorem gM2 {a a2 : Nat → Nat} {cI cZ : ClassId} {L : Nat} {σ τ : St} : jsM.map (fun i => (wM a2 cI cZ τ ++ wX a cI L σ)[i]?) = (wM a2 cI cZ τ).map some := rfl
set_option maxHeartbeats 4000000 in
set_option maxRecDepth 100000 in
theorem gX2 {a a2 : Nat → Nat} {cI cZ : ClassId} {L : Nat} {σ τ : St} : jsX.map (fun i => (wM a2 cI cZ τ ++ wX a cI L σ)[i]?) = (wX a cI L σ).map some := rfl
