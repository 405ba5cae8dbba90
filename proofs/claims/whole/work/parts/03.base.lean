/-! the base: contracts over fixed worlds (a method's world in, a method's world out), opening, return, calls. My own rows. -/
abbrev St : Type := (Nat → Int32) × (Nat → Nat → Int32)
def wsG : List Cond := lw_tbl.filter goodWord
theorem rb_in {w : Cond} (h : w ∈ lw_tbl) (hg : goodWord w = true) : w ∈ wsG := List.mem_filter.mpr ⟨h, hg⟩
theorem rb_tin {w : Cond} (h : w ∈ tables_1) (hg : goodWord w = true) : w ∈ wsG := rb_in (List.mem_append_right _ h) hg
theorem rb_good {w : Cond} (h : w ∈ wsG) : (w.onTables && w.keeps) = true ∨ ∃ ty, w = .arrayClass ty := good_of_word (List.mem_filter.mp h).2
theorem rb_goodIn {y : Cond} (h : y ∈ wsG) : GoodIn wsG (y :: wsG) := by
  intro w hw
  rcases List.mem_cons.mp hw with rfl | hw
  · exact ⟨h, rb_good h⟩
  · exact ⟨hw, rb_good hw⟩
/-- the guards of the pure functions -/
theorem of_pos {c : Prop} {i : Decidable c} {α : Type} {x y z : α} (hc : c) (h : (@ite α c i x y) = z) : x = z := by rw [if_pos hc] at h; exact h
theorem of_neg {c : Prop} {i : Decidable c} {α : Type} {x y z : α} (hc : ¬ c) (h : (@ite α c i x y) = z) : y = z := by rw [if_neg hc] at h; exact h
theorem of_guard {c : Prop} {i : Decidable c} {α : Type} {x : Option α} {z : α} (h : (@ite (Option α) c i x none) = some z) : c ∧ x = some z := by
  by_cases hc : c
  · rw [if_pos hc] at h; exact ⟨hc, h⟩
  · rw [if_neg hc] at h; cases h
theorem of_bind {α β : Type} {x : Option α} {f : α → Option β} {z : β} (h : x.bind f = some z) : ∃ p, x = some p ∧ f p = some z := by
  cases x with
  | none => cases h
  | some p => exact ⟨p, rfl, h⟩
abbrev ix (i : Int32) (n : Nat) : Prop := ¬ (i < 0 ∨ n ≤ i.toNatClampNeg)
abbrev cpyOk (sp dp n : Int32) (N : Nat) : Prop := ¬ sp < 0 ∧ ¬ dp < 0 ∧ ¬ n < 0 ∧ sp.toNatClampNeg + n.toNatClampNeg ≤ N ∧ dp.toNatClampNeg + n.toNatClampNeg ≤ N
/-- a loop with fuel: the body says 1 to go on -/
def rbLoop {S : Type} (f : S → Option (Nat × S)) : Nat → S → Option (Nat × S)
  | 0, _ => none
  | k + 1, s => (f s).bind fun q => if q.1 = 1 then rbLoop f k q.2 else some q
theorem rbLoop_succ {S : Type} {f : S → Option (Nat × S)} {k : Nat} {s : S} {q : Nat × S} (h : rbLoop f (k + 1) s = some q) : ∃ q1, f s = some q1 ∧ (if q1.1 = 1 then rbLoop f k q1.2 else some q1) = some q := of_bind h
def rbF : Nat := 4096
/-- what holds of a method all along -/
def Cx (D : va_G) (cl : List vw_C) (tys : List (ClassId × FieldType)) (SX : (Nat → Prop) → State → Prop) (p : Program) (s : State) (m : MethodId) (args : Array Value) (meth : Method) (c : Code) (cc : ByteArray) (nL : Nat) (own : String) (A : Nat → Prop) : Prop :=
  p.tables.exec = Jvm.exec ∧ c.code = cc ∧ c.maxLocals = nL ∧ s.vm.findClass own = some m.cls ∧ (∀ w ∈ wsG, w.before args s = true) ∧ va_K D cl tys s ∧ (∀ q, s.heap.size ≤ q → A q) ∧ SX A s ∧ meth.locks = false
/-- the world at a place of the walk -/
def Wi (D : va_G) (cl : List vw_C) (w : va_W) (s : State) (A : Nat → Prop) (H : Heap) (locs : List Loc) : Prop := va_P D cl w H ∧ va_D A w ∧ va_S A s.heap H locs
def SXok (SX : (Nat → Prop) → State → Prop) : Prop := (∀ A U g mk a, SX A U → SX A (U.calling g mk a)) ∧ ∀ (A A' : Nat → Prop) (s U : State) (H : Heap) (locs : List Loc), SX A s → va_S A s.heap H locs → U.heap = H → s.WarmedH U.vm → (∀ q, A' q → A q) → SX A' U
def rb_Qi (D : va_G) (cl : List vw_C) (tys : List (ClassId × FieldType)) (w' : va_W) (r : Int32) (A : Nat → Prop) : Array Value → State → Outcome → State → Prop :=
  va_Qi (fun r' (u : va_W) => r' = r ∧ u = w') (fun u t => va_P D cl u t.heap ∧ va_K D cl tys t ∧ va_D A u) A
def rb_Qv (D : va_G) (cl : List vw_C) (tys : List (ClassId × FieldType)) (w' : va_W) (A : Nat → Prop) : Array Value → State → Outcome → State → Prop :=
  va_Qv (fun (u : va_W) => u = w') (fun u t => va_P D cl u t.heap ∧ va_K D cl tys t ∧ va_D A u) A
def rb_Pc (D : va_G) (cl : List vw_C) (tys : List (ClassId × FieldType)) (SX : (Nat → Prop) → State → Prop) (w : va_W) (sz : Nat) (av : List Value) : Array Value → State → Prop :=
  va_Pc av (fun U => U.heap.size = sz ∧ va_P D cl w U.heap ∧ va_K D cl tys U ∧ va_D (fun _ => True) w ∧ SX (va_A w sz) U)
def CI (l : Launch) (D : va_G) (cl : List vw_C) (tys : List (ClassId × FieldType)) (SX : (Nat → Prop) → State → Prop) (w w' : va_W) (y : MethodName) (b : ByteArray) (n : Nat) (ret : Option FieldType) (rm : Room) (av : List Value) (r : Int32) : Prop :=
  ∀ sz, Met l y (.code y b n ret :: wsG) rm (rb_Pc D cl tys SX w sz av) (rb_Qi D cl tys w' r (va_A w sz)) 0 0 (va_A w sz)
def CV (l : Launch) (D : va_G) (cl : List vw_C) (tys : List (ClassId × FieldType)) (SX : (Nat → Prop) → State → Prop) (w w' : va_W) (y : MethodName) (b : ByteArray) (n : Nat) (ret : Option FieldType) (rm : Room) (av : List Value) : Prop :=
  ∀ sz, Met l y (.code y b n ret :: wsG) rm (rb_Pc D cl tys SX w sz av) (rb_Qv D cl tys w' (va_A w sz)) 0 0 (va_A w sz)
theorem rb_blind {D : va_G} {cl : List vw_C} {tys : List (ClassId × FieldType)} {SX : (Nat → Prop) → State → Prop} (hS : SXok SX) (w : va_W) (sz : Nat) (av : List Value) : FrameBlind (rb_Pc D cl tys SX w sz av) := by
  intro a U g mk q
  obtain ⟨q0, q1, qP, qK, qD, qS⟩ := q
  exact ⟨q0, q1, qP, va_K.moved (u := U) (U := U.calling g mk a) (Vm.Alike.refl U.vm) qK, qD, hS.1 _ _ _ _ _ qS⟩
section RB1
variable {l : Launch} {D : va_G} {cl : List vw_C} {tys : List (ClassId × FieldType)} {SX : (Nat → Prop) → State → Prop} {w w' : va_W} {y : MethodName} {b : ByteArray} {n : Nat} {ret : Option FieldType} {rm : Room} {av : List Value} {r : Int32}
theorem CI_of (hy : plainName y.cls = true) (hlen : (lg_sl av).length ≤ n)
    (body : ∀ (p : Program) (e : Env) (s : State) (m : MethodId) (below : List Frame) (meth : Method) (c : Code) (A : Nat → Prop) (ls : Array Slot), Cx D cl tys SX p s m av.toArray meth c b n y.cls A → meth.sig.returnType = ret → lv_has ls n (lv_args 0 av) → Wi D cl w s A s.heap [] →
      W p l e rm s m av.toArray below meth c s.heap [] 0 0 (MQ below (rb_Qi D cl tys w' r A) av.toArray s 0 0 A) (F0 m 0 ls [])) : CI l D cl tys SX w w' y b n ret rm av r := by
  intro sz
  refine Met.ofW (cc := b) (maxL := n) (ret := ret) hy rfl ?_
  intro p e s m args below meth c s₁ B hml hv
  obtain ⟨rfl, hsz, hP, hK, hD0, hSX⟩ := hv
  have hx := B.exec
  have hb := B.bytes
  have hr := B.returns
  have hts0 := atoms_spec (ws := Cond.code y b n ret :: wsG) B.pre
  have hown : s.vm.findClass y.cls = some m.cls := findClass_of_methodNamed B.named
  have hlocks := B.notSynchronized
  subst hsz
  have hD := hD0.self (sz := s.heap.size)
  have hl := lv_entry av (n := n) hlen
  rw [lg_entry_eq]
  exact body p e s m below meth c _ _ ⟨hx, hb, hml, hown, fun w h => hts0 w (List.mem_cons_of_mem _ h), hK, fun q h => Or.inr h, hSX, hlocks⟩ hr hl ⟨hP, hD, va_S.rf⟩
theorem CV_of (hy : plainName y.cls = true) (hlen : (lg_sl av).length ≤ n)
    (body : ∀ (p : Program) (e : Env) (s : State) (m : MethodId) (below : List Frame) (meth : Method) (c : Code) (A : Nat → Prop) (ls : Array Slot), Cx D cl tys SX p s m av.toArray meth c b n y.cls A → meth.sig.returnType = ret → lv_has ls n (lv_args 0 av) → Wi D cl w s A s.heap [] →
      W p l e rm s m av.toArray below meth c s.heap [] 0 0 (MQ below (rb_Qv D cl tys w' A) av.toArray s 0 0 A) (F0 m 0 ls [])) : CV l D cl tys SX w w' y b n ret rm av := by
  intro sz
  refine Met.ofW (cc := b) (maxL := n) (ret := ret) hy rfl ?_
  intro p e s m args below meth c s₁ B hml hv
  obtain ⟨rfl, hsz, hP, hK, hD0, hSX⟩ := hv
  have hx := B.exec
  have hb := B.bytes
  have hr := B.returns
  have hts0 := atoms_spec (ws := Cond.code y b n ret :: wsG) B.pre
  have hown : s.vm.findClass y.cls = some m.cls := findClass_of_methodNamed B.named
  have hlocks := B.notSynchronized
  subst hsz
  have hD := hD0.self (sz := s.heap.size)
  have hl := lv_entry av (n := n) hlen
  rw [lg_entry_eq]
  exact body p e s m below meth c _ _ ⟨hx, hb, hml, hown, fun w h => hts0 w (List.mem_cons_of_mem _ h), hK, fun q h => Or.inr h, hSX, hlocks⟩ hr hl ⟨hP, hD, va_S.rf⟩
end RB1
section RB2
variable {p : Program} {l : Launch} {e : Env} {R : Room} {s : State} {m : MethodId} {args : Array Value} {below : List Frame} {meth : Method} {c : Code} {H : Heap} {locs : List Loc} {cells slots : Nat} {Q : State → Prop}
variable {cc : ByteArray} {pc nL : Nat} {ls : Array Slot} {rest : List Value} {D : va_G} {cl : List vw_C} {A : Nat → Prop} {tys : List (ClassId × FieldType)} {SX : (Nat → Prop) → State → Prop} {w w' : va_W} {own : String} {r : Int32}
theorem rb_retI (C : Cx D cl tys SX p s m args meth c cc nL own A) (hr : meth.sig.returnType = some .int) (hI : Wi D cl w s A H locs) (hdg : decode cc pc = .ok (.ireturn, 1)) :
    W p l e R s m args below meth c H locs cells slots (MQ below (rb_Qi D cl tys w r A) args s cells slots A) (F0 m pc ls [.int r]) := by
  obtain ⟨hx, hb, hml, hown, hts, hK, hA, hSX, hlocks⟩ := C
  obtain ⟨hP, hD, hS⟩ := hI
  exact W.iret (v := r) hx hb hr (fun t ht hW => ⟨⟨r, w, rfl, ⟨rfl, rfl⟩, by rw [ht]; exact hP, va_K.moved hW.alike hK, hD⟩, hS.F ht⟩) hS.2.2 hdg
theorem rb_retZ (C : Cx D cl tys SX p s m args meth c cc nL own A) (hr : meth.sig.returnType = some .boolean) (hn : r = 0 ∨ r = 1) (hI : Wi D cl w s A H locs) (hdg : decode cc pc = .ok (.ireturn, 1)) :
    W p l e R s m args below meth c H locs cells slots (MQ below (rb_Qi D cl tys w r A) args s cells slots A) (F0 m pc ls [.int r]) := by
  obtain ⟨hx, hb, hml, hown, hts, hK, hA, hSX, hlocks⟩ := C
  obtain ⟨hP, hD, hS⟩ := hI
  exact W.zret (v := r) hx hb hr (by rcases hn with rfl | rfl <;> rfl) (fun t ht hW => ⟨⟨r, w, rfl, ⟨rfl, rfl⟩, by rw [ht]; exact hP, va_K.moved hW.alike hK, hD⟩, hS.F ht⟩) hS.2.2 hdg
theorem rb_retV (C : Cx D cl tys SX p s m args meth c cc nL own A) (hr : meth.sig.returnType = none) (hI : Wi D cl w s A H locs) (hdg : decode cc pc = .ok (.return_, 1)) :
    W p l e R s m args below meth c H locs cells slots (MQ below (rb_Qv D cl tys w A) args s cells slots A) (F0 m pc ls []) := by
  obtain ⟨hx, hb, hml, hown, hts, hK, hA, hSX, hlocks⟩ := C
  obtain ⟨hP, hD, hS⟩ := hI
  exact W.vret hx hb hr (fun t ht hW => ⟨⟨w, rfl, rfl, by rw [ht]; exact hP, va_K.moved hW.alike hK, hD⟩, hS.F ht⟩) hS.2.2 hdg
/-- the callee's world is ours: what the callee needs at its start -/
theorem rb_pre (hSok : SXok SX) (C : Cx D cl tys SX p s m args meth c cc nL own A) (hI : Wi D cl w s A H locs) (av : List Value) : PreS s H (rb_Pc D cl tys SX w H.size av) av := by
  obtain ⟨hx, hb, hml, hown, hts, hK, hA, hSX, hlocks⟩ := C
  obtain ⟨hP, hD, hS⟩ := hI
  refine ⟨rb_blind hSok w H.size av, fun U hU hW => ⟨rfl, by rw [hU], by rw [hU]; exact hP, va_K.moved hW.alike hK, hD.weaken (fun _ _ _ _ => trivial), ?_⟩⟩
  refine hSok.2 A (va_A w H.size) s U H locs hSX hS hU hW ?_
  intro q h
  rcases h with ⟨k, e, h⟩ | h
  · exact hD.2 k (q, e) h
  · exact hA q (Nat.le_trans hS.1 h)
theorem rb_inA (hA : ∀ q, s.heap.size ≤ q → A q) (hI : Wi D cl w s A H locs) : ∀ q, va_A w H.size q → A q := by
  obtain ⟨hP, hD, hS⟩ := hI
  intro q h
  rcases h with ⟨k, e, h⟩ | h
  · exact hD.2 k (q, e) h
  · exact hA q (Nat.le_trans hS.1 h)
/-- words of a call -/
def cV (own : String) (index : Nat) (y : MethodName) (b : ByteArray) (n : Nat) (ret : Option FieldType) (k : Nat) : Prop :=
  Cond.code y b n ret ∈ wsG ∧ Cond.methodLink own index y ∈ wsG ∧ Cond.instanceMethod y ∈ wsG ∧ Cond.selects y.cls y y ∈ wsG ∧ Cond.initialized y.cls ∈ wsG ∧ (y.cls ≠ "java/lang/invoke/MethodHandle" ∧ y.cls ≠ "java/lang/invoke/VarHandle" ∧ (parseMethodDescriptor y.desc).map (fun d => d.parameters.length) = some k)
def cS (own : String) (index : Nat) (y : MethodName) (b : ByteArray) (n : Nat) (ret : Option FieldType) (k : Nat) : Prop :=
  Cond.code y b n ret ∈ wsG ∧ Cond.methodLink own index y ∈ wsG ∧ Cond.static y ∈ wsG ∧ Cond.initialized y.cls ∈ wsG ∧ (y.cls ≠ "java/lang/invoke/MethodHandle" ∧ y.cls ≠ "java/lang/invoke/VarHandle" ∧ (parseMethodDescriptor y.desc).map (fun d => d.parameters.length) = some k)
variable {y : MethodName} {b : ByteArray} {n k index q0 ci : Nat} {ret : Option FieldType} {rm : Room} {As : List Value} {o : Nat} {fs : List Value} {T : u_T} {N : Nat} {st : List Value}
theorem rb_callI (hSok : SXok SX) (C : Cx D cl tys SX p s m args meth c cc nL own A) (hM : CI l D cl tys SX w w' y b n ret rm (.ref o :: As) r) (cw : cV own index y b n ret k) (hR : rm.frames + 1 ≤ R.frames ∧ 8 + (n + 11) + rm.locals ≤ R.locals) (hrc : rm.cells = 0 ∧ rm.slots = 0) (hq : w[q0]? = some (o, .inr (ci, fs))) (hcl : cl[ci]? = some (y.cls, T, N))
    (hI : Wi D cl w s A H locs) (hcs : cells ≤ R.cells ∧ slots ≤ R.slots) (hk : As.length = k) (hsize : ls.size = nL) (hrest : (rest.map fun v => v.category).sum ≤ 8) (hst : st = As.reverse ++ .ref o :: rest) (hdg : decode cc pc = .ok (.invokevirtual index, 3))
    (kk : ∀ (H1 : Heap) (locs1 : List Loc), Wi D cl w' s A H1 locs1 → W p l e R s m args below meth c H1 locs1 cells slots Q (F0 m (pc + 3) ls (.int r :: rest))) : W p l e R s m args below meth c H locs cells slots Q (F0 m pc ls st) := by
  have hpre := rb_pre hSok C hI (.ref o :: As)
  have hC := C
  obtain ⟨hx, hb, hml, hown, hts, hK, hA, hSX, hlocks⟩ := C
  obtain ⟨c1, c2, c3, c4, c5, c6⟩ := cw
  have hF := rb_inA hA hI
  obtain ⟨hP, hD, hS⟩ := hI
  have hrecv := va_recv hK hP hcl hq
  have hB : CallB R s args own index y b n ret (.code y b n ret :: wsG) rm 0 0 k := callB_of k hts (rb_goodIn c1) rfl hrc.1 hrc.2 (hts _ c5) (hts _ c2) c6 hR
  subst hst
  refine va_calli (va_runV (C := y.cls) (b := o) (As := As) (rest := rest) ⟨hx, hb, hml, hown, hts⟩ (hM H.size) ⟨hB, hts _ c3, hts _ c4⟩ ⟨hpre.1, hrecv, hpre.2⟩ rfl hk hsize rfl (lv_room hrest) hdg ⟨hcs.1, hcs.2⟩) hS (fun q _ h => hF q h) hF (fun r1 u t H1 locs1 ht hvm hw hB2 hz1 hk1 hS1 => ?_)
  obtain ⟨rfl, rfl⟩ := hw
  obtain ⟨hP1, hK1, hD1⟩ := hB2
  rw [ht] at hP1
  exact kk H1 locs1 ⟨hP1, hD1.weaken (fun _ q _ h => hF q.1 h), hS1⟩
theorem rb_callV (hSok : SXok SX) (C : Cx D cl tys SX p s m args meth c cc nL own A) (hM : CV l D cl tys SX w w' y b n ret rm (.ref o :: As)) (cw : cV own index y b n ret k) (hR : rm.frames + 1 ≤ R.frames ∧ 8 + (n + 11) + rm.locals ≤ R.locals) (hrc : rm.cells = 0 ∧ rm.slots = 0) (hq : w[q0]? = some (o, .inr (ci, fs))) (hcl : cl[ci]? = some (y.cls, T, N))
    (hI : Wi D cl w s A H locs) (hcs : cells ≤ R.cells ∧ slots ≤ R.slots) (hk : As.length = k) (hsize : ls.size = nL) (hrest : (rest.map fun v => v.category).sum ≤ 8) (hst : st = As.reverse ++ .ref o :: rest) (hdg : decode cc pc = .ok (.invokevirtual index, 3))
    (kk : ∀ (H1 : Heap) (locs1 : List Loc), Wi D cl w' s A H1 locs1 → W p l e R s m args below meth c H1 locs1 cells slots Q (F0 m (pc + 3) ls rest)) : W p l e R s m args below meth c H locs cells slots Q (F0 m pc ls st) := by
  have hpre := rb_pre hSok C hI (.ref o :: As)
  obtain ⟨hx, hb, hml, hown, hts, hK, hA, hSX, hlocks⟩ := C
  obtain ⟨c1, c2, c3, c4, c5, c6⟩ := cw
  have hF := rb_inA hA hI
  obtain ⟨hP, hD, hS⟩ := hI
  have hrecv := va_recv hK hP hcl hq
  have hB : CallB R s args own index y b n ret (.code y b n ret :: wsG) rm 0 0 k := callB_of k hts (rb_goodIn c1) rfl hrc.1 hrc.2 (hts _ c5) (hts _ c2) c6 hR
  subst hst
  refine va_callv (va_runV (C := y.cls) (b := o) (As := As) (rest := rest) ⟨hx, hb, hml, hown, hts⟩ (hM H.size) ⟨hB, hts _ c3, hts _ c4⟩ ⟨hpre.1, hrecv, hpre.2⟩ rfl hk hsize rfl (lv_room hrest) hdg ⟨hcs.1, hcs.2⟩) hS (fun q _ h => hF q h) hF (fun u t H1 locs1 ht hvm hw hB2 hz1 hk1 hS1 => ?_)
  subst hw
  obtain ⟨hP1, hK1, hD1⟩ := hB2
  rw [ht] at hP1
  exact kk H1 locs1 ⟨hP1, hD1.weaken (fun _ q _ h => hF q.1 h), hS1⟩
theorem rb_callSI (hSok : SXok SX) (C : Cx D cl tys SX p s m args meth c cc nL own A) (hM : CI l D cl tys SX w w' y b n ret rm As r) (cw : cS own index y b n ret k) (hR : rm.frames + 1 ≤ R.frames ∧ 8 + (n + 11) + rm.locals ≤ R.locals) (hrc : rm.cells = 0 ∧ rm.slots = 0)
    (hI : Wi D cl w s A H locs) (hcs : cells ≤ R.cells ∧ slots ≤ R.slots) (hk : As.length = k) (hsize : ls.size = nL) (hrest : (rest.map fun v => v.category).sum ≤ 8) (hst : st = As.reverse ++ rest) (hdg : decode cc pc = .ok (.invokestatic index, 3))
    (kk : ∀ (H1 : Heap) (locs1 : List Loc), Wi D cl w' s A H1 locs1 → W p l e R s m args below meth c H1 locs1 cells slots Q (F0 m (pc + 3) ls (.int r :: rest))) : W p l e R s m args below meth c H locs cells slots Q (F0 m pc ls st) := by
  have hpre := rb_pre hSok C hI As
  obtain ⟨hx, hb, hml, hown, hts, hK, hA, hSX, hlocks⟩ := C
  obtain ⟨c1, c2, c3, c5, c6⟩ := cw
  have hF := rb_inA hA hI
  obtain ⟨hP, hD, hS⟩ := hI
  have hB : CallB R s args own index y b n ret (.code y b n ret :: wsG) rm 0 0 k := callB_of k hts (rb_goodIn c1) rfl hrc.1 hrc.2 (hts _ c5) (hts _ c2) c6 hR
  subst hst
  refine va_calli (va_runS (As := As) (rest := rest) ⟨hx, hb, hml, hown, hts⟩ (hM H.size) ⟨hB, hts _ c3⟩ hpre rfl hk hsize rfl (lv_room hrest) hdg ⟨hcs.1, hcs.2⟩) hS (fun q _ h => hF q h) hF (fun r1 u t H1 locs1 ht hvm hw hB2 hz1 hk1 hS1 => ?_)
  obtain ⟨rfl, rfl⟩ := hw
  obtain ⟨hP1, hK1, hD1⟩ := hB2
  rw [ht] at hP1
  exact kk H1 locs1 ⟨hP1, hD1.weaken (fun _ q _ h => hF q.1 h), hS1⟩
theorem rb_tabIn (hexec : p.tables.exec = Jvm.exec) (hb : c.code = cc) {dflt lo hi k : Int} {offs : Array Int} {len : Nat} {x : Int32} {off : Int} {tgt : Nat} (hdg : decode cc pc = .ok (.tableswitch dflt lo hi offs, len)) (hk : x.toInt = k) (h1 : ¬ k < lo) (h2 : ¬ hi < k) (ho : offs[(k - lo).toNat]? = some off) (ht : (pc : Int) + off = (tgt : Int))
    (kk : W p l e R s m args below meth c H locs cells slots Q (F0 m tgt ls rest)) : W p l e R s m args below meth c H locs cells slots Q (F0 m pc ls (.int x :: rest)) := by
  subst hk
  exact lv_tableIn hexec hb hdg h1 h2 ho ht kk
end RB2
abbrev tyX (cI : ClassId) : List (ClassId × FieldType) := [(cI, .int)]
abbrev tyM (cI cZ : ClassId) : List (ClassId × FieldType) := [(cI, .int), (cZ, .boolean)]
def wX (a : Nat → Nat) (cI : ClassId) (L : Nat) (σ : St) : va_W :=
  [(a 0, .inr (0, [.ref (a 1), .ref (a 2), .ref (a 3), .ref (a 4), .int (σ.1 0), .int (σ.1 1), .int (σ.1 2), .int (σ.1 3), .int (σ.1 4), .int (σ.1 5)])),
   (a 1, .inr (1, [.ref (a 5), .ref (a 6), .ref (a 7), .int (σ.1 6)])),
   (a 2, .inr (2, [.ref (a 8), .ref (a 9), .ref (a 10), .ref (a 11), .ref (a 12), .ref (a 13), .int (σ.1 7), .int (σ.1 8)])),
   (a 3, .inr (3, [.int (σ.1 9), .int (σ.1 10), .ref (a 14), .ref (a 15), .ref (a 16), .int (σ.1 11), .int (σ.1 12), .int (σ.1 13), .int (σ.1 14), .int (σ.1 15), .int (σ.1 16), .int (σ.1 17), .int (σ.1 18), .int (σ.1 19), .int (σ.1 20)])),
   (a 4, .inl (cI, 8, .inl (σ.2 0))),
   (a 5, .inl (cI, 4, .inl (σ.2 1))),
   (a 6, .inl (cI, 4, .inl (σ.2 2))),
   (a 7, .inl (cI, 16, .inl (σ.2 3))),
   (a 8, .inl (cI, 6, .inl (σ.2 4))),
   (a 9, .inl (cI, 6, .inl (σ.2 5))),
   (a 10, .inl (cI, 72, .inl (σ.2 6))),
   (a 11, .inl (cI, 72, .inl (σ.2 7))),
   (a 12, .inl (cI, 72, .inl (σ.2 8))),
   (a 13, .inl (cI, 72, .inl (σ.2 9))),
   (a 14, .inl (cI, L, .inl (σ.2 10))),
   (a 15, .inl (cI, L, .inl (σ.2 11))),
   (a 16, .inl (cI, L, .inl (σ.2 12)))]
def wM (a : Nat → Nat) (cI cZ : ClassId) (σ : St) : va_W :=
  [(a 0, .inr (4, [.int (σ.1 0), .int (σ.1 1), .int (σ.1 2), .ref (a 1), .ref (a 2), .ref (a 3), .int (σ.1 3), .int (σ.1 4), .ref (a 4), .ref (a 5), .ref (a 6), .ref (a 7), .ref (a 8), .ref (a 9), .ref (a 10), .ref (a 11), .int (σ.1 5), .ref (a 12), .int (σ.1 6), .int (σ.1 7), .int (σ.1 8), .ref (a 13), .ref (a 14), .int (σ.1 9), .int (σ.1 10), .int (σ.1 11), .int (σ.1 12), .int (σ.1 13), .int (σ.1 14), .int (σ.1 15), .ref (a 15), .int (σ.1 16), .int (σ.1 17)])),
   (a 1, .inl (cI, 4, .inl (σ.2 0))),
   (a 2, .inl (cI, 4, .inl (σ.2 1))),
   (a 3, .inl (cI, 16, .inl (σ.2 2))),
   (a 4, .inl (cI, 6, .inl (σ.2 3))),
   (a 5, .inl (cI, 6, .inl (σ.2 4))),
   (a 6, .inl (cI, 288, .inl (σ.2 5))),
   (a 7, .inl (cI, 240, .inl (σ.2 6))),
   (a 8, .inl (cI, 240, .inl (σ.2 7))),
   (a 9, .inl (cI, 240, .inl (σ.2 8))),
   (a 10, .inl (cI, 960, .inl (σ.2 9))),
   (a 11, .inl (cI, 960, .inl (σ.2 10))),
   (a 12, .inl (cI, 120, .inl (σ.2 11))),
   (a 13, .inl (cI, 240, .inl (σ.2 12))),
   (a 14, .inl (cZ, 240, .inl (σ.2 13))),
   (a 15, .inl (cI, 8, .inl (σ.2 14)))]
def nestF : List (String × Nat × String × String × String × String) := [("ReadBarrierMachine", 167, "ReadBarrierMachine$Methods", "handlers", "[I", "ReadBarrierMachine"), ("ReadBarrierMachine", 197, "ReadBarrierMachine$Methods", "ops", "[I", "ReadBarrierMachine"), ("ReadBarrierMachine", 188, "ReadBarrierMachine$Methods", "xs", "[I", "ReadBarrierMachine"), ("ReadBarrierMachine", 191, "ReadBarrierMachine$Methods", "ys", "[I", "ReadBarrierMachine"), ("ReadBarrierMachine", 194, "ReadBarrierMachine$Methods", "zs", "[I", "ReadBarrierMachine"), ("ReadBarrierMachine", 68, "ReadBarrierMachine$Methods", "isOpen", "Z", "ReadBarrierMachine"), ("ReadBarrierMachine", 94, "ReadBarrierMachine$Room", "current", "I", "ReadBarrierMachine"), ("ReadBarrierMachine", 134, "ReadBarrierMachine$Room", "flipCount", "I", "ReadBarrierMachine"), ("ReadBarrierMachine", 112, "ReadBarrierMachine$Room", "stepWork", "I", "ReadBarrierMachine"), ("ReadBarrierMachine", 121, "ReadBarrierMachine$Room", "full", "Z", "ReadBarrierMachine")]
def nestM : List (String × Nat × MethodName × String) := [("ReadBarrierMachine", 9, { cls := "ReadBarrierMachine$Kinds", name := "<init>", desc := "()V" }, "ReadBarrierMachine"), ("ReadBarrierMachine", 18, { cls := "ReadBarrierMachine$Methods", name := "<init>", desc := "()V" }, "ReadBarrierMachine")]
def tXl0 : List Int32 := [1, 1, 1, 1, 1, 1, 1, 1, 1, 0, 1, 1, 1, 1, 1, 1]
def tXl1 : List Int32 := [0, 1, 0, 1, 0, 1, 1, 1, 1, 0, 0, 0, 1, 1, 0, 0]
def tXl2 : List Int32 := [-1, 3, 4, -1, -1, 3, 3, 3, 3, 12, 12, 12, 4, -1, -1, -1]
def tX0 (j : Nat) : Int32 := tXl0.getD j 0
def tX1 (j : Nat) : Int32 := tXl1.getD j 0
def tX2 (j : Nat) : Int32 := tXl2.getD j 0
def SXx (tt : Nat → Nat) (A : Nat → Prop) (s : State) : Prop :=
  (∀ q ∈ nestF, va_Nw (.fieldLinkNest q.1 q.2.1 q.2.2.1 q.2.2.2.1 q.2.2.2.2.1 q.2.2.2.2.2) s) ∧ (∀ q ∈ nestM, va_Nw (.methodLinkNest q.1 q.2.1 q.2.2.1 q.2.2.2) s) ∧
  (va_Z R_Mach "NAMES_X" "[I" (.ref (tt 0)) A s s.heap ∧ va_T .int (tt 0) 16 (fun j => .int (tX0 j)) A s s.heap) ∧ (va_Z R_Mach "NAMES_Y" "[I" (.ref (tt 1)) A s s.heap ∧ va_T .int (tt 1) 16 (fun j => .int (tX1 j)) A s s.heap) ∧ (va_Z R_Mach "Z_VALUES" "[I" (.ref (tt 2)) A s s.heap ∧ va_T .int (tt 2) 16 (fun j => .int (tX2 j)) A s s.heap)
theorem rb_st {C n d : String} {t N : Nat} {f : Nat → Value} {A A' : Nat → Prop} {s U : State} {H : Heap} {locs : List Loc} (h : va_Z C n d (.ref t) A s s.heap ∧ va_T .int t N f A s s.heap) (hS : va_S A s.heap H locs) (hU : U.heap = H) (hW : s.WarmedH U.vm) (hAB : ∀ q, A' q → A q) : va_Z C n d (.ref t) A' U U.heap ∧ va_T .int t N f A' U U.heap := by
  rw [hU]
  exact ⟨((h.1.kept hS.2.1).narrow hAB).moved hW.alike, ((h.2.kept hS.2.1).narrow hAB).moved hW.alike⟩
theorem rb_sc {C n d : String} {t N : Nat} {f : Nat → Value} {A : Nat → Prop} {U : State} {g : JFrame} {mk : MethodId} {a : Array Value} (h : va_Z C n d (.ref t) A U U.heap ∧ va_T .int t N f A U U.heap) : va_Z C n d (.ref t) A (U.calling g mk a) (U.calling g mk a).heap ∧ va_T .int t N f A (U.calling g mk a) (U.calling g mk a).heap :=
  ⟨va_Z.moved (u := U) (U := U.calling g mk a) (Vm.Alike.refl U.vm) h.1, va_T.moved (u := U) (U := U.calling g mk a) (Vm.Alike.refl U.vm) h.2⟩
theorem sxok {tt : Nat → Nat} : SXok (SXx tt) := by
  refine ⟨?_, ?_⟩
  · intro A U g mk a h
    obtain ⟨h1, h2, h3, h4, h5⟩ := h
    exact ⟨fun q hq => va_Nw.same rfl (u := U) rfl (h1 q hq), fun q hq => va_Nw.same rfl (u := U) rfl (h2 q hq), rb_sc h3, rb_sc h4, rb_sc h5⟩
  · intro A A' s U H locs h hS hU hW hAB
    obtain ⟨h1, h2, h3, h4, h5⟩ := h
    exact ⟨fun q hq => va_Nw.warmF hW (h1 q hq), fun q hq => va_Nw.warmM hW (h2 q hq), rb_st h3 hS hU hW hAB, rb_st h4 hS hU hW hAB, rb_st h5 hS hU hW hAB⟩
def SXm (_ : Nat → Prop) (_ : State) : Prop := True
theorem smok : SXok SXm := ⟨fun _ _ _ _ _ _ => trivial, fun _ _ _ _ _ _ _ _ _ _ _ => trivial⟩
