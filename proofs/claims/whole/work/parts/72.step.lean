/-! SHOW, an exception on its way, one step -/
theorem nI_and7 (a : Nat) : nI a &&& 7 = nI (a % 8) := by
  have h : (BitVec.ofNat 32 a &&& 7#32) = BitVec.ofNat 32 (a % 8) := by
    apply BitVec.eq_of_toNat_eq
    rw [BitVec.toNat_and, BitVec.toNat_ofNat, BitVec.toNat_ofNat, BitVec.toNat_ofNat, show 7 % 2 ^ 32 = 2 ^ 3 - 1 from rfl, Nat.and_two_pow_sub_one_eq_mod]
    omega
  have e : (nI a &&& 7).toBitVec = (nI (a % 8)).toBitVec := h
  exact Int32.toBitVec_inj.mp e
theorem va_id {f : Nat → Nat → Int32} {k : Nat} : va_up f k (f k) = f := by
  funext j
  by_cases h : j = k
  · subst h; exact va_up_self _ _ _
  · exact va_up_n h
theorem va_va {f : Nat → Nat → Int32} {k : Nat} {g h : Nat → Int32} : va_up (va_up f k g) k h = va_up f k h := by
  funext j
  by_cases e : j = k
  · subst e; rw [va_up_self, va_up_self]
  · rw [va_up_n e, va_up_n e, va_up_n e]
theorem show_loop {x : Int32} : ∀ i, i ≤ 7 → ∀ (K : Nat) (s : St), i < K → ∃ f, rbLoop (fMod_show_B3 x) K (nI i, s) = some (0, (nI 0, (s.1, va_up s.2 14 f))) ∧ ∀ y, f y = if 1 ≤ y ∧ y ≤ i then s.2 14 (y - 1) else s.2 14 y := by
  intro i
  induction i with
  | zero =>
    intro _ K s hK
    obtain ⟨K, rfl⟩ : ∃ k, K = k + 1 := ⟨K - 1, by omega⟩
    refine ⟨s.2 14, ?_, fun y => by rw [if_neg (by omega)]⟩
    rw [va_id]
    refine rbLoop_end (c := 0) ?_ (by decide)
    unfold fMod_show_B3
    rw [if_pos (show (nI 0, s).1 ≤ 0 from (by decide : nI 0 ≤ 0))]
  | succ i ih =>
    intro hi K s hK
    obtain ⟨K, rfl⟩ : ∃ k, K = k + 1 := ⟨K - 1, by omega⟩
    obtain ⟨f, h1, h2⟩ := ih (by omega) K (s.1, va_up s.2 14 (upd (s.2 14) (i + 1) (s.2 14 i))) (by omega)
    refine ⟨f, ?_, ?_⟩
    · rw [rbLoop_go (s' := (nI i, (s.1, va_up s.2 14 (upd (s.2 14) (i + 1) (s.2 14 i))))), h1]
      · show some (0, (nI 0, (s.1, va_up (va_up s.2 14 _) 14 f))) = _
        rw [va_va]
      · unfold fMod_show_B3
        have e1 : nI (i + 1) - 1 = nI i := by rw [show (1 : Int32) = nI 1 from rfl, pk_sub (by omega)]; rfl
        have e2 : nI (i + 1) + (-1) = nI i := by rw [← e1]; exact (Int32.sub_eq_add_neg _ _).symm
        show (if nI (i + 1) ≤ 0 then _ else (if ix (nI (i + 1) - 1) 8 then (if ix (nI (i + 1)) 8 then some (1, (nI (i + 1) + (-1), (s.1, va_up s.2 14 (upd (s.2 14) (nI (i + 1)).toNatClampNeg (s.2 14 (nI (i + 1) - 1).toNatClampNeg))))) else none) else none)) = _
        rw [e1, e2, if_neg (show ¬ nI (i + 1) ≤ 0 by rw [show (0 : Int32) = nI 0 from rfl, nI_le' (by omega) (by omega)]; omega), gd (ix_n (show i < 8 by omega) (by omega)), gd (ix_n (show i + 1 < 8 by omega) (by omega)), nI_tc (show i + 1 < 100000 by omega), nI_tc (show i < 100000 by omega)]
    · intro y
      rw [h2 y]
      show (if 1 ≤ y ∧ y ≤ i then upd (s.2 14) (i + 1) (s.2 14 i) (y - 1) else upd (s.2 14) (i + 1) (s.2 14 i) y) = _
      by_cases c1 : 1 ≤ y ∧ y ≤ i
      · rw [if_pos c1, if_pos (by omega), upd_n (by omega)]
      · rw [if_neg c1]
        by_cases c2 : y = i + 1
        · subst c2; rw [upd_s, if_pos (by omega)]; rfl
        · rw [upd_n c2, if_neg (by omega)]
section ST
variable {n nk nf op pc : Nat} {σ τ : St} {ad : Nat → Nat} {cur dl o j : Nat} {sk : Nat → Nat}
theorem sim15 (h : Mid n nk nf op pc σ τ ad cur sk dl) (hp : PlOK τ cur) {a : Nat} (ha : a < 3) {yv zv : Int32} : Sim n nk nf op pc σ τ (nI 15) (nI a) yv zv := by
  obtain ⟨c1, c2, c3, c4, c5, c6, c7, c8, c9, c10⟩ := mid_cur h
  obtain ⟨i1, i2, i3⟩ := m_ix c3 c1 (show a < 4 by omega)
  obtain ⟨k, s1, s2, s3⟩ := h.1.2.2.1
  obtain ⟨f, l1, l2⟩ := show_loop (x := τ.2 10 (4 * cur + a)) 7 (by omega) rbF τ (by rw [rbF_val]; omega)
  refine ⟨(upd σ.1 0 (σ.1 0 + 1), va_up σ.2 0 (upd (σ.2 0) (k % 8) (τ.2 10 (4 * cur + a)))), (upd τ.1 15 (τ.1 15 + 1), va_up (va_up τ.2 14 f) 14 (upd f 0 (τ.2 10 (4 * cur + a)))), ?_, ?_, ?_⟩
  · rw [xd_15]
    unfold fMach_doShow fMach_slotOfShown
    rw [Option.bind_some]
    show (fMach_numberIn (2 * n) σ (nI a)).bind _ = _
    rw [mid_cint h (show a < 4 by omega), Option.bind_some]
    show (if ix (σ.1 0 &&& 7) 8 then some (upd σ.1 0 (σ.1 0 + 1), va_up σ.2 0 (upd (σ.2 0) (σ.1 0 &&& 7).toNatClampNeg (τ.2 10 (4 * cur + a)))) else none) = _
    rw [show σ.1 0 &&& 7 = nI (k % 8) by rw [s1]; exact nI_and7 k, gd (ix_n (by omega) (by omega)), nI_tc (by omega)]
  · rw [md_15, gd i1, i2]
    unfold fMod_show
    rw [show (7 : Int32) = nI 7 from rfl, l1, Option.bind_some]
    rfl
  · obtain ⟨⟨t1, t2, t3, t4⟩, h2, h3⟩ := h
    refine Mid.post (ad := ad) (cur := cur) (sk := sk) (dl := dl) ⟨⟨t1, t2, ⟨k + 1, ?_, ?_, ?_⟩, t4⟩, h2, h3⟩ (fun _ => hp)
    · show σ.1 0 + 1 = _
      rw [s1, show (1 : Int32) = nI 1 from rfl, nI_add]
    · show τ.1 15 + 1 = _
      rw [s2, show (1 : Int32) = nI 1 from rfl, nI_add]
    · intro j hj8 hjk
      show upd f 0 (τ.2 10 (4 * cur + a)) j = upd (σ.2 0) (k % 8) (τ.2 10 (4 * cur + a)) ((k + 1 - 1 - j) % 8)
      cases j with
      | zero => rw [upd_s, show (k + 1 - 1 - 0) % 8 = k % 8 from rfl, upd_s]
      | succ j =>
        rw [upd_n (by omega), l2, if_pos (by omega), upd_n (by omega), s3 (j + 1 - 1) (by omega) (by omega), show k - 1 - (j + 1 - 1) = k + 1 - 1 - (j + 1) by omega]
/-- the current frame's method -/
theorem mid_meth (h : Mid n nk nf op pc σ τ ad cur sk dl) : ∃ m, m < nf ∧ m < 6 ∧ τ.2 8 cur = nI m ∧ fMach_methodOfCurrent (2 * n) σ = some (nI m, σ) ∧ RM1 σ τ nk m ∧ Fin1 τ m := by
  obtain ⟨c1, c2, c3, c4, c5, c6, c7, c8, c9, c10⟩ := mid_cur h
  obtain ⟨oT, hK, hf6, hn2, hbd, hhd, -⟩ := hp_obj h.2.1 c1 c8
  rcases oT with ⟨-, m, hm, e⟩ | ⟨k, hk, e⟩
  · have hid : idN τ cur = 4 + m := by unfold idN; rw [if_pos c5, e, nI_tc (by omega)]
    have hsz : szN τ cur = 1 + nrN τ cur + niN τ cur := rfl
    refine ⟨m, hm, by omega, e, ?_, h.1.2.1.2.2.2.2.2.2.1 m (by omega), h.1.2.1.2.2.2.2.2.2.2 m hm⟩
    unfold fMach_methodOfCurrent fRoom_methodOfFrame
    rw [c4, x_idOf (by omega) (by omega) hhd, Option.bind_some, hid, Option.bind_some]
    show some (nI (4 + m) - 4, σ) = _
    rw [show (4 : Int32) = nI 4 from rfl, pk_sub (by omega), show 4 + m - 4 = m by omega]
  · rw [c5] at e
    have := hK.1
    exact absurd e.symm (nI_m1 (by omega))
theorem m_unwind {m : Nat} (hm : m < 6) {A B : Int32} (i9 : ix (τ.1 9) 240) (e8 : τ.2 8 (τ.1 9).toNatClampNeg = nI m) (ha : (4 : Int32) * τ.1 9 + 3 = A) (hb : (4 : Int32) * τ.1 9 + 2 = B) (iA : ix A 960) (iB : ix B 960) : fMod_unwind τ = if τ.2 3 m < 0 then (if τ.2 9 A.toNatClampNeg = -1 then some (upd (upd τ.1 12 2) 13 (τ.1 11), τ.2) else ((fMod_read τ A).bind fun p => if p.1 = 0 then some p.2 else (if ix ((4 : Int32) * p.2.1 9 + 3) 960 then some (upd p.2.1 9 (p.2.2 9 ((4 : Int32) * p.2.1 9 + 3).toNatClampNeg), p.2.2) else none))) else some (upd τ.1 10 0, va_up (va_up τ.2 10 (upd (τ.2 10) A.toNatClampNeg (τ.2 3 m))) 10 (upd (upd (τ.2 10) A.toNatClampNeg (τ.2 3 m)) B.toNatClampNeg (τ.1 11))) := by
  subst ha hb
  have i6 : ix (nI m) 6 := ix_n hm (by omega)
  have t6 : (nI m).toNatClampNeg = m := nI_tc (by omega)
  unfold fMod_unwind
  rw [e8]
  generalize hM : nI m = M at i6 t6
  subst t6
  simp only [if_pos i9, if_pos i6, if_pos iA, if_pos iB]
theorem unwind_sim (h : Mid n nk nf op pc σ τ ad cur sk dl) (hpe : ¬ τ.1 10 = 0) : ∃ σ' τ', fMach_passException (2 * n) σ = some σ' ∧ fMod_unwind τ = some τ' ∧ Post n nk nf op pc σ' τ' := by
  obtain ⟨c1, c2, c3, c4, c5, c6, c7, c8, c9, c10⟩ := mid_cur h
  obtain ⟨m, hm, hm6, e8, hmX, hRM, hFin⟩ := mid_meth h
  obtain ⟨l1, l2, l3⟩ := m_ix c3 c1 (show 3 < 4 by omega)
  obtain ⟨i1, i2, i3⟩ := m_ix c3 c1 (show 2 < 4 by omega)
  have l2' : ((4 : Int32) * τ.1 9 + 3).toNatClampNeg = 4 * cur + 3 := l2
  have i9 : ix (τ.1 9) 240 := by rw [c3]; exact ix_n c1 (by omega)
  have t9 : (τ.1 9).toNatClampNeg = cur := by rw [c3]; exact nI_tc (by omega)
  have hM0 := m_unwind (τ := τ) hm6 i9 (by rw [t9]; exact e8) rfl rfl (show ix ((4 : Int32) * τ.1 9 + 3) 960 from l1) (show ix ((4 : Int32) * τ.1 9 + 2) 960 from i1)
  have hX0 : fMach_passException (2 * n) σ = if τ.2 3 m = (-1) then ((fRoom_readRef (2 * n) σ (σ.1 11) 3).bind fun p50 => if (p50.2.1 20) = 0 then (if p50.1 = (-1) then (some (upd (upd p50.2.1 1 2) 2 (p50.2.1 4), p50.2.2)) else (some (upd p50.2.1 11 p50.1, p50.2.2))) else (some p50.2)) else ((fMach_setPlace (2 * n) σ (τ.2 3 m)).bind fun p20 => (fMach_setNumber (2 * n) p20 2 (p20.1 4)).bind fun p29 => some (upd p29.1 3 0, p29.2)) := by
    unfold fMach_passException
    rw [hmX, Option.bind_some]
    show (if ix (nI m) 6 then (if σ.2 4 (nI m).toNatClampNeg = -1 then _ else ((fMach_setPlace (2 * n) σ (σ.2 4 (nI m).toNatClampNeg)).bind _)) else none) = _
    rw [gd (ix_n hm6 (by omega)), nI_tc (by omega), hRM.1]
  rcases hFin.2.2.2 with hh | ⟨hd, hd1, hh⟩
  · rw [if_pos (by rw [hh]; decide)] at hM0
    rw [if_pos hh] at hX0
    obtain ⟨r3, σ2, b2, τ2, ad2, hX2, hM2, e112, m92, m102, sb2, mk2, hag2, hcase2⟩ := mid_read h c1 c2 (show 3 < nrN τ cur by omega)
    have hr2 : fMod_read τ ((4 : Int32) * τ.1 9 + 3) = some (b2, τ2) := by rw [show ((4 : Int32) * τ.1 9 + 3) = nI (4 * cur + 3) from l3]; exact hM2
    have hX3 : fRoom_readRef (2 * n) σ (σ.1 11) 3 = some (r3, σ2) := by rw [c4]; exact hX2
    rw [hX3, Option.bind_some] at hX0
    by_cases hl : τ.2 9 (4 * cur + 3) = -1
    · have hn := m_readNone (τ := τ) (show ix ((4 : Int32) * τ.1 9 + 3) 960 from l1) (by rw [l2']; exact hl)
      rw [hr2, if_pos h.2.2.2.1] at hn
      have e1 : b2 = 1 := congrArg Prod.fst (Option.some.inj hn)
      have e2 : τ2 = τ := congrArg Prod.snd (Option.some.inj hn)
      subst e2
      rw [if_pos (by rw [l2']; exact hl)] at hM0
      rcases hcase2 with ⟨g1, g2, g3, g4, -⟩ | ⟨g1, g2, g3, hM3, hcv2⟩
      · rw [e1] at g3; exact absurd g3 (by decide)
      · have hr3 : r3 = -1 := by
          rcases hcv2 with hc | ⟨t, t1, t2, -⟩
          · exact hc.2
          · rw [hl] at t2; exact absurd t2.symm (nI_m1 (by omega))
        refine ⟨(upd (upd σ2.1 1 2) 2 (σ2.1 4), σ2.2), _, ?_, hM0, ?_⟩
        · rw [hX0]
          show (if σ2.1 20 = 0 then (if r3 = -1 then _ else _) else _) = _
          rw [if_pos g1, if_pos hr3]
        · obtain ⟨s1, s2, s3, s4, s5, s6⟩ := hM3
          exact ⟨s1, ad2, cur, sk, dl, HP.weak (run := True) s2 (fun _ => trivial), Or.inr (Or.inr ⟨s3, Or.inr rfl, rfl, s1.2.2.2.2.2.1⟩)⟩
    · rw [if_neg (by rw [l2']; exact hl), hr2, Option.bind_some] at hM0
      rcases hcase2 with ⟨g1, g2, g3, g4, hP⟩ | ⟨g1, g2, g3, hM3, hcv2⟩
      · refine ⟨σ2, τ2, ?_, ?_, hP⟩
        · rw [hX0]
          show (if σ2.1 20 = 0 then _ else _) = _
          rw [if_neg (by rw [g1]; decide)]
        · rw [hM0, if_pos g3]
      · rcases hcv2 with hc | ⟨t, t1, t2, t3, t4, t5⟩
        · exact absurd hc.1 hl
        have hl2 : τ2.2 9 (4 * cur + 3) = nI t := by rw [sb2.2.2.1]; exact t2
        obtain ⟨hM4, hpl⟩ := mid_pop hM3 hl2 t1 t3
        refine ⟨_, _, ?_, ?_, hM4.post (fun e => absurd (m102.symm.trans e) hpe)⟩
        · rw [hX0]
          show (if σ2.1 20 = 0 then (if r3 = -1 then _ else some (upd σ2.1 11 r3, σ2.2)) else _) = _
          have hb3 := (hp_obj hM3.2.1 t1 (by rcases t3 with h | h <;> rw [h] <;> decide))
          rw [if_pos g1, if_neg (by rw [t4]; exact nI_m1 (by omega)), t4]
        · rw [hM0, if_neg (show ¬ b2 = 0 by rw [g3]; decide)]
          show (if ix ((4 : Int32) * τ2.1 9 + 3) 960 then some (upd τ2.1 9 (τ2.2 9 ((4 : Int32) * τ2.1 9 + 3).toNatClampNeg), τ2.2) else none) = _
          rw [m92, gd (show ix ((4 : Int32) * τ.1 9 + 3) 960 from l1), l2', hl2]
  · rw [if_neg (by rw [hh]; exact nI_nlt0 (by have := hRM.2.2.1; omega))] at hM0
    rw [if_neg (by rw [hh]; exact nI_m1 (by have := hRM.2.2.1; omega)), hh] at hX0
    obtain ⟨σ1, -, hX1, hs1, hs2, hM1⟩ := mid_csetI h (show 3 < 4 by omega) (nI hd)
    obtain ⟨σ2, hX2, -, ht1, ht2, hM2⟩ := mid_csetI hM1 (show 2 < 4 by omega) (τ.1 11)
    have e4 : σ1.1 4 = τ.1 11 := by rw [hs1]; exact h.1.2.2.2.2.2.1
    obtain ⟨⟨t1, t2, t3, t4, t5, t6, t7, t8, t9⟩, h2, h3, h4, h5⟩ := hM2
    refine ⟨(upd σ2.1 3 0, σ2.2), _, ?_, hM0, ?_⟩
    · rw [hX0]
      unfold fMach_setPlace
      rw [bnd, show fRoom_setInt (2 * n) σ (σ.1 11) 3 (nI hd) = some σ1 from hX1, Option.bind_some, e4, show fMach_setNumber (2 * n) σ1 2 (τ.1 11) = some σ2 from hX2, Option.bind_some]
    · rw [l2', show ((4 : Int32) * τ.1 9 + 2).toNatClampNeg = 4 * cur + 2 from i2, hh]
      refine Mid.post (ad := ad) (cur := cur) (sk := sk) (dl := dl) ⟨⟨t1, t2, t3, t4, t5, t6, t7, ⟨rfl, Or.inl rfl⟩, t9⟩, h2, h3, h4, h5⟩ (fun _ => ⟨m, hd, e8, hm6, hd1, ?_⟩)
      show upd (upd (τ.2 10) (4 * cur + 3) (nI hd)) (4 * cur + 2) (τ.1 11) (4 * cur + 3) = _
      rw [upd_n (by omega), upd_s]
theorem m_step {m q : Nat} (hm : m < 6) (hq : q < 12) {A : Int32} (h10 : τ.1 10 = 0) (i9 : ix (τ.1 9) 240) (e8 : τ.2 8 (τ.1 9).toNatClampNeg = nI m) (ha : (4 : Int32) * τ.1 9 + 3 = A) (iA : ix A 960) (e10 : τ.2 10 A.toNatClampNeg = nI q) : fMod_step τ = mDisp (τ.1, va_up τ.2 10 (upd (τ.2 10) A.toNatClampNeg (nI (q + 1)))) (τ.2 5 (48 * m + 4 * q)) (τ.2 5 (48 * m + 4 * q + 1)) (τ.2 5 (48 * m + 4 * q + 2)) (τ.2 5 (48 * m + 4 * q + 3)) := by
  subst ha
  have w0 : (48 : Int32) * nI m + 4 * nI q = nI (48 * m + 4 * q) := by rw [show (48 : Int32) = nI 48 from rfl, show (4 : Int32) = nI 4 from rfl, pk_mul, pk_mul, nI_add]
  have w1 : nI (48 * m + 4 * q) + 1 = nI (48 * m + 4 * q + 1) := by rw [show (1 : Int32) = nI 1 from rfl, nI_add]
  have w2 : nI (48 * m + 4 * q) + 2 = nI (48 * m + 4 * q + 2) := by rw [show (2 : Int32) = nI 2 from rfl, nI_add]
  have w3 : nI (48 * m + 4 * q) + 3 = nI (48 * m + 4 * q + 3) := by rw [show (3 : Int32) = nI 3 from rfl, nI_add]
  have wq : nI q + 1 = nI (q + 1) := by rw [show (1 : Int32) = nI 1 from rfl, nI_add]
  have j0 : ix (nI (48 * m + 4 * q)) 288 := ix_n (by omega) (by omega)
  have j1 : ix (nI (48 * m + 4 * q + 1)) 288 := ix_n (by omega) (by omega)
  have j2 : ix (nI (48 * m + 4 * q + 2)) 288 := ix_n (by omega) (by omega)
  have j3 : ix (nI (48 * m + 4 * q + 3)) 288 := ix_n (by omega) (by omega)
  have t0 : (nI (48 * m + 4 * q)).toNatClampNeg = 48 * m + 4 * q := nI_tc (by omega)
  have t1 : (nI (48 * m + 4 * q + 1)).toNatClampNeg = 48 * m + 4 * q + 1 := nI_tc (by omega)
  have t2 : (nI (48 * m + 4 * q + 2)).toNatClampNeg = 48 * m + 4 * q + 2 := nI_tc (by omega)
  have t3 : (nI (48 * m + 4 * q + 3)).toNatClampNeg = 48 * m + 4 * q + 3 := nI_tc (by omega)
  unfold fMod_step
  rw [e8, e10, w0, w1, w2, w3, wq]
  generalize nI (48 * m + 4 * q) = W0 at *
  generalize nI (48 * m + 4 * q + 1) = W1 at *
  generalize nI (48 * m + 4 * q + 2) = W2 at *
  generalize nI (48 * m + 4 * q + 3) = W3 at *
  simp only [if_pos h10, if_pos i9, if_pos iA, if_pos j0, if_pos j1, if_pos j2, if_pos j3, bnd]
  rw [t0, t1, t2, t3]
  rfl
end ST
