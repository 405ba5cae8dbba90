/-! constructors: contracts that make cells; calls on a part of the world -/
def rb_Qn (D : va_G) (cl : List vw_C) (tys : List (ClassId × FieldType)) (P : va_W → Prop) (A : Nat → Prop) : Array Value → State → Outcome → State → Prop :=
  va_Qv (fun (u : va_W) => P u) (fun u t => va_P D cl u t.heap ∧ va_K D cl tys t ∧ va_D A u) A
def CN (l : Launch) (D : va_G) (cl : List vw_C) (tys : List (ClassId × FieldType)) (SX : (Nat → Prop) → State → Prop) (w : va_W) (P : va_W → Prop) (y : MethodName) (b : ByteArray) (n : Nat) (rm : Room) (av : List Value) (mc ms : Nat) : Prop :=
  ∀ sz, Met l y (.code y b n none :: wsG) rm (rb_Pc D cl tys SX w sz av) (rb_Qn D cl tys P (va_A w sz)) mc ms (va_A w sz)
section RC1
variable {l : Launch} {D : va_G} {cl : List vw_C} {tys : List (ClassId × FieldType)} {SX : (Nat → Prop) → State → Prop} {w : va_W} {P : va_W → Prop} {y : MethodName} {b : ByteArray} {n : Nat} {rm : Room} {av : List Value} {mc ms : Nat}
theorem CN_of (hy : plainName y.cls = true) (hyn : y.name = "<init>") (hlen : (lg_sl av).length ≤ n)
    (body : ∀ (p : Program) (e : Env) (s : State) (m : MethodId) (below : List Frame) (meth : Method) (c : Code) (A : Nat → Prop) (ls : Array Slot), Cx D cl tys SX p s m av.toArray meth c b n y.cls A → meth.sig.returnType = none → meth.name = "<init>" → lv_has ls n (lv_args 0 av) → Wi D cl w s A s.heap [] →
      W p l e rm s m av.toArray below meth c s.heap [] 0 0 (MQ below (rb_Qn D cl tys P A) av.toArray s mc ms A) (F0 m 0 ls [])) : CN l D cl tys SX w P y b n rm av mc ms := by
  intro sz
  refine Met.ofW (cc := b) (maxL := n) (ret := none) hy rfl ?_
  intro p e s m args below meth c s₁ B hml hv
  obtain ⟨rfl, hsz, hP, hK, hD0, hSX⟩ := hv
  have hx := B.exec
  have hb := B.bytes
  have hr := B.returns
  have hts0 := atoms_spec (ws := Cond.code y b n none :: wsG) B.pre
  have hown : s.vm.findClass y.cls = some m.cls := findClass_of_methodNamed B.named
  have hlocks := B.notSynchronized
  have hnm : meth.name = y.name := (name_of_methodNamed B.named B.method).1
  subst hsz
  have hD := hD0.self (sz := s.heap.size)
  have hl := lv_entry av (n := n) hlen
  rw [lg_entry_eq]
  exact body p e s m below meth c _ _ ⟨hx, hb, hml, hown, fun w h => hts0 w (List.mem_cons_of_mem _ h), hK, fun q h => Or.inr h, hSX, hlocks⟩ hr (hnm.trans hyn) hl ⟨hP, hD, va_S.rf⟩
end RC1
section RC2
variable {p : Program} {l : Launch} {e : Env} {R : Room} {s : State} {m : MethodId} {args : Array Value} {below : List Frame} {meth : Method} {c : Code} {H : Heap} {locs : List Loc} {cells slots : Nat} {Q : State → Prop}
variable {cc : ByteArray} {pc nL : Nat} {ls : Array Slot} {rest : List Value} {D : va_G} {cl : List vw_C} {A : Nat → Prop} {tys : List (ClassId × FieldType)} {SX : (Nat → Prop) → State → Prop} {w w' : va_W} {own : String} {r : Int32} {P : va_W → Prop}
theorem rb_retN (C : Cx D cl tys SX p s m args meth c cc nL own A) (hr : meth.sig.returnType = none) (hI : Wi D cl w s A H locs) (hp : P w) (hdg : decode cc pc = .ok (.return_, 1)) :
    W p l e R s m args below meth c H locs cells slots (MQ below (rb_Qn D cl tys P A) args s cells slots A) (F0 m pc ls []) := by
  obtain ⟨hx, hb, hml, hown, hts, hK, hA, hSX, hlocks⟩ := C
  obtain ⟨hP, hD, hS⟩ := hI
  exact W.vret hx hb hr (fun t ht hW => ⟨⟨w, rfl, hp, by rw [ht]; exact hP, va_K.moved hW.alike hK, hD⟩, hS.F ht⟩) hS.2.2 hdg
theorem rb_oinit (C : Cx D cl tys SX p s m args meth c cc nL own A) {idx : Nat} (h1 : Cond.methodLink own idx Lib.objectInit ∈ wsG) (h2 : Cond.instanceMethod Lib.objectInit ∈ wsG) (h3 : Cond.code Lib.objectInit ⟨#[0xb1]⟩ 1 none ∈ wsG) (hsz : ls.size = nL) {a : Nat} (hdg : decode cc pc = .ok (.invokespecial idx, 3)) (hfr : 1 ≤ R.frames) (hlo : (rest.map fun v => v.category).sum + 12 ≤ R.locals)
    (kk : W p l e R s m args below meth c H locs cells slots Q (F0 m (pc + 3) ls rest)) : W p l e R s m args below meth c H locs cells slots Q (F0 m pc ls (.ref a :: rest)) := by
  obtain ⟨hx, hb, hml, hown, hts, hK, hA, hSX, hlocks⟩ := C
  exact W.objInit hx hb hown (hts _ h1) (hts _ h2) (hts _ h3) rfl (hsz.trans hml.symm) rfl hdg hfr (by show 2 * 0 + _ + 12 ≤ _; omega) kk
theorem rb_pF (C : Cx D cl tys SX p s m args meth c cc nL own A) (hI : Wi D cl w s A H locs) {T : u_T} {N ci index a : Nat} (hin : ∀ x ∈ u_ws own T N, x ∈ wsG) (ty0 : Nat → FieldType) (hty : ∀ k, k < N → parseFieldDescriptor (T k).2.2.1 = some (ty0 k)) (hnm : ∀ a, a < N → ∀ b, b < N → a ≠ b → (T a).2.1 ≠ (T b).2.1) (q0 : Nat) {fs : List Value} (he : w[q0]? = some (a, .inr (ci, fs))) (hc : cl[ci]? = some (own, T, N)) (k : Nat) (hk : k < N)
    (hlink : Cond.fieldLink own index own (T k).2.1 (T k).2.2.1 ∈ wsG) (hfin : (T k).2.2.2 = true) (hin2 : meth.name = "<init>") (hdecl : (T k).1 = own) {ty : FieldType} {v : Value} (hd : parseFieldDescriptor (T k).2.2.1 = some ty) (hn : narrow ty v = v) (hfit : fits ty v = true) (hl : k < fs.length) (hdg : decode cc pc = .ok (.putfield index, 3)) (hw : w.set q0 (a, .inr (ci, fs.set k v)) = w')
    (kk : ∀ (H : Heap) (locs : List Loc), Wi D cl w' s A H locs → W p l e R s m args below meth c H locs cells slots Q (F0 m (pc + 3) ls rest)) : W p l e R s m args below meth c H locs cells slots Q (F0 m pc ls (v :: .ref a :: rest)) := by
  obtain ⟨hx, hb, hml, hown, hts, hK, hA, hSX, hlocks⟩ := C
  subst hw
  refine va_putF hx hb hts hin ty0 hty hnm hown hK hI.1 hI.2.1 hI.2.2 q0 he hc k hk (hts _ hlink) (fun x h => by rw [← hdecl]; exact h) hfin hin2 hdecl hd hn hfit hl hdg (fun H1 locs1 h1 h2 h3 => kk H1 locs1 ⟨h1, h2, h3⟩)
theorem rb_pN (C : Cx D cl tys SX p s m args meth c cc nL own A) (hI : Wi D cl w s A H locs) {T : u_T} {N ci index a : Nat} (hin : ∀ x ∈ u_ws own T N, x ∈ wsG) (ty0 : Nat → FieldType) (hty : ∀ k, k < N → parseFieldDescriptor (T k).2.2.1 = some (ty0 k)) (hnm : ∀ a, a < N → ∀ b, b < N → a ≠ b → (T a).2.1 ≠ (T b).2.1) (q0 : Nat) {fs : List Value} (he : w[q0]? = some (a, .inr (ci, fs))) (hc : cl[ci]? = some (own, T, N)) (k : Nat) (hk : k < N)
    (hlink : Cond.fieldLink own index own (T k).2.1 (T k).2.2.1 ∈ wsG) (hfin : (T k).2.2.2 = false) (hdecl : (T k).1 = own) {ty : FieldType} {v : Value} (hd : parseFieldDescriptor (T k).2.2.1 = some ty) (hn : narrow ty v = v) (hfit : fits ty v = true) (hl : k < fs.length) (hdg : decode cc pc = .ok (.putfield index, 3)) (hw : w.set q0 (a, .inr (ci, fs.set k v)) = w')
    (kk : ∀ (H : Heap) (locs : List Loc), Wi D cl w' s A H locs → W p l e R s m args below meth c H locs cells slots Q (F0 m (pc + 3) ls rest)) : W p l e R s m args below meth c H locs cells slots Q (F0 m pc ls (v :: .ref a :: rest)) := by
  obtain ⟨hx, hb, hml, hown, hts, hK, hA, hSX, hlocks⟩ := C
  subst hw
  refine va_put hx hb hts hin ty0 hty hnm hown hK hI.1 hI.2.1 hI.2.2 q0 he hc k hk (hts _ hlink) (fun x h => by rw [← hdecl]; exact h) hfin hd hn hfit hl hdg (fun H1 locs1 h1 h2 h3 => kk H1 locs1 ⟨h1, h2, h3⟩)
theorem rb_newI (C : Cx D cl tys SX p s m args meth c cc nL own A) (hI : Wi D cl w s A H locs) (harr : Cond.arrayClass .int ∈ wsG) (t0 : Nat) {cA : ClassId} (ht : tys[t0]? = some (cA, .int)) {n : Int32} {N : Nat} (hn : ¬ n < 0) (hN : n.toNatClampNeg = N) (hbytes : N * componentBytes .int ≤ 536870912) (hcells : cells + 1 ≤ R.cells) (hslots : slots + N ≤ R.slots) (hdg : decode cc pc = .ok (.newarray .int, 2))
    (kk : ∀ (q : Nat) (H : Heap), Wi D cl (w ++ [(q, .inl (cA, N, .inl fun _ => 0))]) s A H locs → W p l e R s m args below meth c H locs (cells + 1) (slots + N) Q (F0 m (pc + 2) ls (.ref q :: rest))) : W p l e R s m args below meth c H locs cells slots Q (F0 m pc ls (.int n :: rest)) := by
  obtain ⟨hx, hb, hml, hown, hts, hK, hA, hSX, hlocks⟩ := C
  obtain ⟨hP, hD, hS⟩ := hI
  refine va_newa (atype := .int) (ty := .int) (a0 := (N, .inl fun _ => 0)) hx hb (hts _ harr) rfl hK hP hD hS hA (fun _ => rfl) hn hN hbytes hcells hslots hdg (fun q cB H1 hK1 hP1 hD1 hS1 => ?_)
  have h1 := (hK1.2 tys.length (cB, .int) (by simp)).2
  have h2 := (hK.2 t0 _ ht).2
  have h3 : some cB = some cA := (show s.vm.findClass _ = some cB from h1).symm.trans h2
  cases h3
  exact kk q H1 ⟨hP1, hD1, hS1⟩
theorem rb_newZ (C : Cx D cl tys SX p s m args meth c cc nL own A) (hI : Wi D cl w s A H locs) (harr : Cond.arrayClass .boolean ∈ wsG) (t0 : Nat) {cA : ClassId} (ht : tys[t0]? = some (cA, .boolean)) {n : Int32} {N : Nat} (hn : ¬ n < 0) (hN : n.toNatClampNeg = N) (hbytes : N * componentBytes .boolean ≤ 536870912) (hcells : cells + 1 ≤ R.cells) (hslots : slots + N ≤ R.slots) (hdg : decode cc pc = .ok (.newarray .boolean, 2))
    (kk : ∀ (q : Nat) (H : Heap), Wi D cl (w ++ [(q, .inl (cA, N, .inl fun _ => 0))]) s A H locs → W p l e R s m args below meth c H locs (cells + 1) (slots + N) Q (F0 m (pc + 2) ls (.ref q :: rest))) : W p l e R s m args below meth c H locs cells slots Q (F0 m pc ls (.int n :: rest)) := by
  obtain ⟨hx, hb, hml, hown, hts, hK, hA, hSX, hlocks⟩ := C
  obtain ⟨hP, hD, hS⟩ := hI
  refine va_newa (atype := .boolean) (ty := .boolean) (a0 := (N, .inl fun _ => 0)) hx hb (hts _ harr) rfl hK hP hD hS hA (fun _ => rfl) hn hN hbytes hcells hslots hdg (fun q cB H1 hK1 hP1 hD1 hS1 => ?_)
  have h1 := (hK1.2 tys.length (cB, .boolean) (by simp)).2
  have h2 := (hK.2 t0 _ ht).2
  have h3 : some cB = some cA := (show s.vm.findClass _ = some cB from h1).symm.trans h2
  cases h3
  exact kk q H1 ⟨hP1, hD1, hS1⟩
theorem rb_newC (C : Cx D cl tys SX p s m args meth c cc nL own A) (hI : Wi D cl w s A H locs) {K : String} {T : u_T} {N ci index : Nat} (hin : ∀ x ∈ u_ws K T N, x ∈ wsG) (ty : Nat → FieldType) (hty : ∀ k, k < N → parseFieldDescriptor (T k).2.2.1 = some (ty k)) (h1 : Cond.classLink own index K ∈ wsG) (h2 : Cond.instantiable K N ∈ wsG) (h3 : Cond.initialized K ∈ wsG) (hc : cl[ci]? = some (K, T, N)) {fs : List Value} (hfs : ∀ j, j < N → defaultValue (ty j) = vp_V fs j) (hcells : cells + 1 ≤ R.cells) (hslots : slots + N ≤ R.slots) (hdg : decode cc pc = .ok (.new index, 3))
    (kk : ∀ (q : Nat) (H : Heap), Wi D cl (w ++ [(q, .inr (ci, fs))]) s A H locs → W p l e R s m args below meth c H locs (cells + 1) (slots + N) Q (F0 m (pc + 3) ls (.ref q :: rest))) : W p l e R s m args below meth c H locs cells slots Q (F0 m pc ls rest) := by
  obtain ⟨hx, hb, hml, hown, hts, hK, hA, hSX, hlocks⟩ := C
  obtain ⟨hP, hD, hS⟩ := hI
  exact va_new hx hb hts hin ty hty hown (hts _ h1) (hts _ h2) (hts _ h3) hK hP hD hS hA hc hfs hcells hslots hdg (fun q H1 h1 h2 h3 => kk q H1 ⟨h1, h2, h3⟩)
/-- a part of the world, as a callee's start wants it -/
theorem rb_preP (hSok : SXok SX) {tys' : List (ClassId × FieldType)} {SY : (Nat → Prop) → State → Prop} (hSY : SXok SY) (C : Cx D cl tys SX p s m args meth c cc nL own A) (hK' : va_K D cl tys' s) (hSYs : SY A s) (hI : Wi D cl w s A H locs) {wc : va_W} (isC : List Nat) (hC : isC.filterMap (fun i => w[i]?) = wc) (hCm : isC.map (fun i => w[i]?) = wc.map some) (hnd : va_nd isC = true) (av : List Value) : PreS s H (rb_Pc D cl tys' SY wc H.size av) av := by
  obtain ⟨hx, hb, hml, hown, hts, hK, hA, hSX, hlocks⟩ := C
  obtain ⟨hP, hD, hS⟩ := hI
  refine ⟨rb_blind hSY wc H.size av, fun U hU hW => ⟨rfl, by rw [hU], by rw [hU]; exact hP.sub isC hC, va_K.moved hW.alike hK', (hD.sub isC hnd hCm).weaken (fun _ _ _ _ => trivial), ?_⟩⟩
  exact hSY.2 A (va_A wc H.size) s U H locs hSYs hS hU hW (va_free hD hS hA isC hCm)
variable {y : MethodName} {b : ByteArray} {n k index q0 ci mc ms : Nat} {ret : Option FieldType} {rm : Room} {As : List Value} {o : Nat} {fs : List Value} {T : u_T} {N : Nat} {st : List Value} {wc wr : va_W}
/-- words of a constructor's call, plain and of a nest mate -/
def cK (own : String) (index : Nat) (y : MethodName) (b : ByteArray) (n : Nat) (k : Nat) : Prop :=
  Cond.code y b n none ∈ wsG ∧ Cond.methodLink own index y ∈ wsG ∧ Cond.instanceMethod y ∈ wsG ∧ Cond.initialized y.cls ∈ wsG ∧ y.name = "<init>" ∧ (y.cls ≠ "java/lang/invoke/MethodHandle" ∧ y.cls ≠ "java/lang/invoke/VarHandle" ∧ (parseMethodDescriptor y.desc).map (fun d => d.parameters.length) = some k)
def cKN (y : MethodName) (b : ByteArray) (n : Nat) (k : Nat) : Prop :=
  Cond.code y b n none ∈ wsG ∧ Cond.instanceMethod y ∈ wsG ∧ Cond.initialized y.cls ∈ wsG ∧ y.name = "<init>" ∧ (y.cls ≠ "java/lang/invoke/MethodHandle" ∧ y.cls ≠ "java/lang/invoke/VarHandle" ∧ (parseMethodDescriptor y.desc).map (fun d => d.parameters.length) = some k)
theorem rb_behind (hI : Wi D cl w s A H locs) (hA : ∀ q, s.heap.size ≤ q → A q) (isC isR : List Nat) (hCm : isC.map (fun i => w[i]?) = wc.map some) (hRm : isR.map (fun i => w[i]?) = wr.map some) (hn : va_nd isR = true) (hdis : ∀ i ∈ isR, i ∉ isC) {H1 : Heap} {locs1 : List Loc} {u : va_W}
    (hk1 : ∀ q : Nat, q < H.size → ¬ va_A wc H.size q → H1[q]? = H[q]?) (hP1 : va_P D cl u H1) (hD1 : va_D (va_A wc H.size) u) (hS1 : va_S A s.heap H1 locs1) : Wi D cl (wr ++ u) s A H1 locs1 := by
  obtain ⟨hP, hD, hS⟩ := hI
  obtain ⟨h1, h2⟩ := va_join (wr := wr) (w1 := u) hP hD isC isR hCm hRm hn hdis hk1 (va_free hD hS hA isC hCm) hP1 hD1
  exact ⟨h1, h2, hS1⟩
theorem rb_callK (hSok : SXok SX) {SY : (Nat → Prop) → State → Prop} (hSY : SXok SY) (hSYs : SY A s) (C : Cx D cl tys SX p s m args meth c cc nL own A) (hM : CN l D cl tys SY wc P y b n rm (.ref o :: As) mc ms) (cw : cK own index y b n k) (hR : rm.frames + 1 ≤ R.frames ∧ 8 + (n + 11) + rm.locals ≤ R.locals) (hrc : rm.cells = mc ∧ rm.slots = ms)
    (isC isR : List Nat) (hC : isC.filterMap (fun i => w[i]?) = wc) (hCm : isC.map (fun i => w[i]?) = wc.map some) (hRm : isR.map (fun i => w[i]?) = wr.map some) (hndC : va_nd isC = true) (hn : va_nd isR = true) (hdis : ∀ i ∈ isR, i ∉ isC)
    (hI : Wi D cl w s A H locs) (hcs : cells + mc ≤ R.cells ∧ slots + ms ≤ R.slots) (hk : As.length = k) (hsize : ls.size = nL) (hrest : (rest.map fun v => v.category).sum ≤ 8) (hst : st = As.reverse ++ .ref o :: rest) (hdg : decode cc pc = .ok (.invokespecial index, 3))
    (kk : ∀ (u : va_W) (H1 : Heap) (locs1 : List Loc), P u → Wi D cl (wr ++ u) s A H1 locs1 → W p l e R s m args below meth c H1 locs1 (cells + mc) (slots + ms) Q (F0 m (pc + 3) ls rest)) : W p l e R s m args below meth c H locs cells slots Q (F0 m pc ls st) := by
  have hpre := rb_preP hSok hSY C C.2.2.2.2.2.1 hSYs hI isC hC hCm hndC (.ref o :: As)
  obtain ⟨hx, hb, hml, hown, hts, hK, hA, hSX, hlocks⟩ := C
  obtain ⟨c1, c2, c3, c4, c5, c6⟩ := cw
  have hF := va_free hI.2.1 hI.2.2 hA isC hCm
  subst hst
  refine va_callv (va_runI (b := o) (As := As) (rest := rest) ⟨hx, hb, hml, hown, hts⟩ (hM H.size) (cwI k hts (rb_goodIn c1) rfl hrc.1 hrc.2 (hts _ c4) (hts _ c2) (hts _ c3) c5 c6 hR) hpre rfl hk hsize rfl (lv_room hrest) hdg ⟨hcs.1, hcs.2⟩) hI.2.2 (fun q _ h => hF q h) hF (fun u t H1 locs1 ht hvm hw hB2 hz1 hk1 hS1 => ?_)
  obtain ⟨hP1, hK1, hD1⟩ := hB2
  rw [ht] at hP1
  exact kk u H1 locs1 hw (rb_behind hI hA isC isR hCm hRm hn hdis hk1 hP1 hD1 hS1)
theorem rb_callKN {host : String} (hSok : SXok SX) (C : Cx D cl tys SX p s m args meth c cc nL own A) (hM : CN l D cl tys SX wc P y b n rm (.ref o :: As) mc ms) (hl : va_Nw (.methodLinkNest own index y host) s) (cw : cKN y b n k) (hR : rm.frames + 1 ≤ R.frames ∧ 8 + (n + 11) + rm.locals ≤ R.locals) (hrc : rm.cells = mc ∧ rm.slots = ms)
    (isC isR : List Nat) (hC : isC.filterMap (fun i => w[i]?) = wc) (hCm : isC.map (fun i => w[i]?) = wc.map some) (hRm : isR.map (fun i => w[i]?) = wr.map some) (hndC : va_nd isC = true) (hn : va_nd isR = true) (hdis : ∀ i ∈ isR, i ∉ isC)
    (hI : Wi D cl w s A H locs) (hcs : cells + mc ≤ R.cells ∧ slots + ms ≤ R.slots) (hk : As.length = k) (hsize : ls.size = nL) (hrest : (rest.map fun v => v.category).sum ≤ 8) (hst : st = As.reverse ++ .ref o :: rest) (hdg : decode cc pc = .ok (.invokespecial index, 3))
    (kk : ∀ (u : va_W) (H1 : Heap) (locs1 : List Loc), P u → Wi D cl (wr ++ u) s A H1 locs1 → W p l e R s m args below meth c H1 locs1 (cells + mc) (slots + ms) Q (F0 m (pc + 3) ls rest)) : W p l e R s m args below meth c H locs cells slots Q (F0 m pc ls st) := by
  have hpre := rb_preP hSok hSok C C.2.2.2.2.2.1 C.2.2.2.2.2.2.2.1 hI isC hC hCm hndC (.ref o :: As)
  obtain ⟨hx, hb, hml, hown, hts, hK, hA, hSX, hlocks⟩ := C
  obtain ⟨c1, c3, c4, c5, c6⟩ := cw
  have hF := va_free hI.2.1 hI.2.2 hA isC hCm
  subst hst
  refine va_callv (va_runIN (b := o) (As := As) (rest := rest) ⟨hx, hb, hml, hown, hts⟩ (hM H.size) ⟨va_cnB k hts (rb_goodIn c1) rfl hrc.1 hrc.2 hl (hts _ c4) c6 hR, c5, hts _ c3⟩ hpre rfl hk hsize rfl (lv_room hrest) hdg ⟨hcs.1, hcs.2⟩) hI.2.2 (fun q _ h => hF q h) hF (fun u t H1 locs1 ht hvm hw hB2 hz1 hk1 hS1 => ?_)
  obtain ⟨hP1, hK1, hD1⟩ := hB2
  rw [ht] at hP1
  exact kk u H1 locs1 hw (rb_behind hI hA isC isR hCm hRm hn hdis hk1 hP1 hD1 hS1)
/-- a call on a part of the world, of a method whose contract names fewer words -/
theorem rb_callP {tys' : List (ClassId × FieldType)} {SY : (Nat → Prop) → State → Prop} (hSok : SXok SX) (hSY : SXok SY) (hSYs : SY A s) (hK' : va_K D cl tys' s) (C : Cx D cl tys SX p s m args meth c cc nL own A) (hM : CI l D cl tys' SY wc w' y b n ret rm (.ref o :: As) r) (cw : cV own index y b n ret k) (hR : rm.frames + 1 ≤ R.frames ∧ 8 + (n + 11) + rm.locals ≤ R.locals) (hrc : rm.cells = 0 ∧ rm.slots = 0)
    (isC isR : List Nat) (hC : isC.filterMap (fun i => w[i]?) = wc) (hCm : isC.map (fun i => w[i]?) = wc.map some) (hRm : isR.map (fun i => w[i]?) = wr.map some) (hndC : va_nd isC = true) (hn : va_nd isR = true) (hdis : ∀ i ∈ isR, i ∉ isC) (hq : w[q0]? = some (o, .inr (ci, fs))) (hcl : cl[ci]? = some (y.cls, T, N))
    (hI : Wi D cl w s A H locs) (hcs : cells ≤ R.cells ∧ slots ≤ R.slots) (hk : As.length = k) (hsize : ls.size = nL) (hrest : (rest.map fun v => v.category).sum ≤ 8) (hst : st = As.reverse ++ .ref o :: rest) (hdg : decode cc pc = .ok (.invokevirtual index, 3))
    (kk : ∀ (H1 : Heap) (locs1 : List Loc), Wi D cl (wr ++ w') s A H1 locs1 → W p l e R s m args below meth c H1 locs1 cells slots Q (F0 m (pc + 3) ls (.int r :: rest))) : W p l e R s m args below meth c H locs cells slots Q (F0 m pc ls st) := by
  have hpre := rb_preP hSok hSY C hK' hSYs hI isC hC hCm hndC (.ref o :: As)
  obtain ⟨hx, hb, hml, hown, hts, hK, hA, hSX, hlocks⟩ := C
  obtain ⟨c1, c2, c3, c4, c5, c6⟩ := cw
  have hF := va_free hI.2.1 hI.2.2 hA isC hCm
  have hrecv := va_recv hK hI.1 hcl hq
  have hB : CallB R s args own index y b n ret (.code y b n ret :: wsG) rm 0 0 k := callB_of k hts (rb_goodIn c1) rfl hrc.1 hrc.2 (hts _ c5) (hts _ c2) c6 hR
  subst hst
  refine va_calli (va_runV (C := y.cls) (b := o) (As := As) (rest := rest) ⟨hx, hb, hml, hown, hts⟩ (hM H.size) ⟨hB, hts _ c3, hts _ c4⟩ ⟨hpre.1, hrecv, hpre.2⟩ rfl hk hsize rfl (lv_room hrest) hdg ⟨hcs.1, hcs.2⟩) hI.2.2 (fun q _ h => hF q h) hF (fun r1 u t H1 locs1 ht hvm hw hB2 hz1 hk1 hS1 => ?_)
  obtain ⟨rfl, rfl⟩ := hw
  obtain ⟨hP1, hK1, hD1⟩ := hB2
  rw [ht] at hP1
  exact kk H1 locs1 (rb_behind hI hA isC isR hCm hRm hn hdis hk1 hP1 hD1 hS1)
theorem rb_swap {a b : va_W} (hI : Wi D cl (a ++ b) s A H locs) : Wi D cl (b ++ a) s A H locs :=
  ⟨va_P.swap (a := []) (b := a) (c := b) hI.1, va_D.swap (a := []) (b := a) (c := b) hI.2.1, hI.2.2⟩
end RC2
