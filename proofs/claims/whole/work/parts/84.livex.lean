/-! live: the class's walk -/
def Rch (τ : St) (cur o : Nat) : Prop := ∀ S : Nat → Prop, S cur → (∀ a j t, S a → j < nrN τ a → t < 240 → τ.2 9 (4 * a + j) = nI t → S t) → S o
theorem Rch.base {τ : St} {cur : Nat} : Rch τ cur cur := fun _ h _ => h
theorem Rch.step {τ : St} {cur a j t : Nat} (h : Rch τ cur a) (hj : j < nrN τ a) (ht : t < 240) (e : τ.2 9 (4 * a + j) = nI t) : Rch τ cur t := fun S h1 h2 => h2 a j t (h S h1 h2) hj ht e
def indS (P : Nat → Bool) (g : Nat → Nat) : Nat → Nat := fun o => if P o then g o else 0
def addP (P : Nat → Bool) (a : Nat) : Nat → Bool := fun o => P o || decide (o = a)
theorem addP_iff {P : Nat → Bool} {a o : Nat} : addP P a o = true ↔ (P o = true ∨ o = a) := by
  unfold addP
  rw [Bool.or_eq_true, decide_eq_true_iff]
theorem ind_same {P : Nat → Bool} {g : Nat → Nat} {a : Nat} : ∀ N, N ≤ a → sumTo (indS (addP P a) g) N = sumTo (indS P g) N := by
  intro N hN
  refine sumTo_congr N (fun i hi => ?_)
  unfold indS
  have : addP P a i = P i := by
    unfold addP
    rw [decide_eq_false (by omega), Bool.or_false]
  rw [this]
theorem ind_add {P : Nat → Bool} {g : Nat → Nat} {a : Nat} (ha : P a = false) : ∀ N, a < N → sumTo (indS (addP P a) g) N = sumTo (indS P g) N + g a := by
  intro N
  induction N with
  | zero => intro h; omega
  | succ N ih =>
    intro h
    show sumTo (indS (addP P a) g) N + indS (addP P a) g N = sumTo (indS P g) N + indS P g N + g a
    by_cases hc : N = a
    · subst hc
      rw [ind_same N (Nat.le_refl _)]
      have h1 : indS (addP P N) g N = g N := by unfold indS; rw [if_pos (addP_iff.mpr (Or.inr rfl))]
      have h2 : indS P g N = 0 := by unfold indS; rw [ha]; rfl
      omega
    · have h1 : indS (addP P a) g N = indS P g N := by
        unfold indS
        have : addP P a N = P N := by unfold addP; rw [decide_eq_false hc, Bool.or_false]
        rw [this]
      have := ih (by omega)
      omega
theorem ind_le {P : Nat → Bool} {g : Nat → Nat} {b : Nat} (h : ∀ o, P o = true → g o ≤ b) : ∀ N, sumTo (indS P g) N ≤ b * N := by
  intro N
  induction N with
  | zero => exact Nat.le_refl _
  | succ N ih =>
    show sumTo (indS P g) N + indS P g N ≤ b * (N + 1)
    have : indS P g N ≤ b := by
      unfold indS
      cases hP : P N
      · rw [if_neg (by decide)]; omega
      · rw [if_pos rfl]; exact h N hP
    rw [Nat.mul_add]
    omega
theorem ind_none {g : Nat → Nat} : ∀ N, sumTo (indS (fun _ => false) g) N = 0 := by
  intro N
  induction N with
  | zero => rfl
  | succ N ih =>
    show sumTo (indS (fun _ => false) g) N + indS (fun _ => false) g N = 0
    rw [ih]; rfl
abbrev XS (σ : St) (f11 f12 : Nat → Int32) : St := (σ.1, va_up (va_up σ.2 12 f12) 11 f11)
section LX
variable {n nk nf op pc : Nat} {run : Prop} {σ τ : St} {ad : Nat → Nat} {cur dl o j : Nat} {sk : Nat → Nat}
/-- what the class found, m of them -/
def XI (n : Nat) (τ : St) (ad : Nat → Nat) (cur m : Nat) (fo : Nat → Nat) (f11 f12 : Nat → Int32) : Prop := (∀ k, k < m → fo k < 240 ∧ τ.2 6 (fo k) ≠ 0 ∧ Rch τ cur (fo k) ∧ f11 k = nI (ad (fo k))) ∧ (∀ i j, i < m → j < m → fo i = fo j → i = j) ∧ (∀ k, k < m → f12 (ad (fo k)) = 1) ∧ ∀ y, (∀ k, k < m → y ≠ ad (fo k)) → f12 y = 0
theorem note_ok (h : HP n nk nf run σ τ ad cur sk dl) {m t : Nat} {fo : Nat → Nat} {f11 f12 : Nat → Int32} (hI : XI n τ ad cur m fo f11 f12) (ht : t < 240) (hl : τ.2 6 t ≠ 0) (hr : Rch τ cur t) :
    ∃ m' fo' f11' f12', fRoom_noteFound (2 * n) (XS σ f11 f12) (nI (ad t)) (nI m) = some (nI m', XS σ f11' f12') ∧ XI n τ ad cur m' fo' f11' f12' ∧ m ≤ m' ∧ (∀ k, k < m → fo' k = fo k) ∧ ∃ k, k < m' ∧ fo' k = t := by
  obtain ⟨i1, i2, i3, i4⟩ := hI
  obtain ⟨oT, hK, hf6, hn2, hb, hhd, -⟩ := hp_obj h ht hl
  have z : szN τ t = 1 + nrN τ t + niN τ t := rfl
  have ia : ix (nI (ad t)) (2 * n) := ix_n (by omega) (by omega)
  have ta : (nI (ad t)).toNatClampNeg = ad t := nI_tc (by omega)
  have hna : ¬ nI (ad t) = -1 := nI_m1 (by omega)
  by_cases hc : ∃ k, k < m ∧ fo k = t
  · obtain ⟨k, k1, k2⟩ := hc
    refine ⟨m, fo, f11, f12, ?_, ⟨i1, i2, i3, i4⟩, Nat.le_refl _, fun _ _ => rfl, k, k1, k2⟩
    unfold fRoom_noteFound
    rw [if_neg hna, gd ia]
    show (if f12 (nI (ad t)).toNatClampNeg = 1 then some (nI m, XS σ f11 f12) else _) = _
    rw [if_pos (by rw [ta, ← k2]; exact i3 k k1)]
  · have hno : ∀ k, k < m → fo k ≠ t := fun k hk e => hc ⟨k, hk, e⟩
    have hfl : f12 (ad t) = 0 := i4 (ad t) (fun k hk e => hno k hk (hp_inj h (i1 k hk).1 ht (i1 k hk).2.1 hl e.symm))
    have hpk : ∀ k, k < m → put fo m t k = fo k := fun k hk => put_n (by omega)
    have inj' : ∀ i j, i < m + 1 → j < m + 1 → put fo m t i = put fo m t j → i = j := by
      intro i j hi hj e
      by_cases him : i = m
      · by_cases hjm : j = m
        · omega
        · rw [him, put_s, put_n hjm] at e
          exact absurd e.symm (hno j (by omega))
      · by_cases hjm : j = m
        · rw [hjm, put_s, put_n him] at e
          exact absurd e (hno i (by omega))
        · rw [put_n him, put_n hjm] at e
          exact i2 i j (by omega) (by omega) e
    have hm := few h (m := m + 1) (f := put fo m t) (fun i hi => by
      by_cases him : i = m
      · rw [him, put_s]; exact ⟨ht, hl⟩
      · rw [put_n him]; exact ⟨(i1 i (by omega)).1, (i1 i (by omega)).2.1⟩) inj'
    refine ⟨m + 1, put fo m t, upd f11 m (nI (ad t)), upd f12 (ad t) 1, ?_, ⟨?_, inj', ?_, ?_⟩, by omega, hpk, m, by omega, put_s⟩
    · unfold fRoom_noteFound
      rw [if_neg hna, gd ia]
      show (if f12 (nI (ad t)).toNatClampNeg = 1 then _ else (if ix (nI (ad t)) (2 * n) then (if ix (nI m) (2 * n) then some (nI m + 1, (σ.1, va_up (va_up (va_up (va_up σ.2 12 f12) 11 f11) 12 (upd f12 (nI (ad t)).toNatClampNeg 1)) 11 (upd f11 (nI m).toNatClampNeg (nI (ad t))))) else none) else none)) = _
      rw [if_neg (by rw [ta, hfl]; decide), gd ia, gd (ix_n (by omega) (by omega)), ta, nI_tc (by omega), up2 (by decide), nI_1]
    · intro k hk
      by_cases hkm : k = m
      · rw [hkm, put_s, upd_s]; exact ⟨ht, hl, hr, rfl⟩
      · rw [put_n hkm, upd_n hkm]; exact i1 k (by omega)
    · intro k hk
      by_cases hkm : k = m
      · rw [hkm, put_s, upd_s]
      · rw [put_n hkm]
        by_cases ha : ad (fo k) = ad t
        · rw [ha, upd_s]
        · rw [upd_n ha]; exact i3 k (by omega)
    · intro y hy
      have h1 := hy m (by omega)
      rw [put_s] at h1
      rw [upd_n h1]
      exact i4 y (fun k hk => by have := hy k (by omega); rw [put_n (by omega)] at this; exact this)
/-- the refs of one object -/
theorem x_inner (h : HP n nk nf run σ τ ad cur sk dl) {a : Nat} {x1 x3 : Int32} (ha : a < 240) (hl : τ.2 6 a ≠ 0) (hr : Rch τ cur a) : ∀ (K j m : Nat) (fo : Nat → Nat) (f11 f12 : Nat → Int32), j ≤ nrN τ a → nrN τ a - j < K → XI n τ ad cur m fo f11 f12 →
    ∃ m' fo' f11' f12', rbLoop (fRoom_countReachableCells_B60 (2 * n) x1 x3 (nI (ad a)) (nI (nrN τ a))) K (nI m, nI j, XS σ f11 f12) = some (0, (nI m', nI (nrN τ a), XS σ f11' f12')) ∧ XI n τ ad cur m' fo' f11' f12' ∧ m ≤ m' ∧ (∀ k, k < m → fo' k = fo k) ∧ ∀ j', j ≤ j' → j' < nrN τ a → ∀ t, t < 240 → τ.2 9 (4 * a + j') = nI t → ∃ k, k < m' ∧ fo' k = t := by
  have hnr : nrN τ a < 5 := by
    obtain ⟨oT, hK, -⟩ := hp_obj h ha hl
    exact (ob_nr hK oT).1
  intro K
  induction K with
  | zero => intro j m fo f11 f12 _ hK; omega
  | succ K ih =>
    intro j m fo f11 f12 hj hK hI
    by_cases hjr : j = nrN τ a
    · subst hjr
      refine ⟨m, fo, f11, f12, rbLoop_end ?_ (by decide), hI, Nat.le_refl _, fun _ _ => rfl, fun j' h1 h2 => absurd h2 (by omega)⟩
      unfold fRoom_countReachableCells_B60
      exact if_pos (Int32.le_refl _)
    · have hjl : j < nrN τ a := by omega
      have hH' : HP n nk nf run (XS σ f11 f12) τ ad cur sk dl := h
      have hstep : ∃ m1 fo1 g11 g12, fRoom_countReachableCells_B60 (2 * n) x1 x3 (nI (ad a)) (nI (nrN τ a)) (nI m, nI j, XS σ f11 f12) = some (1, (nI m1, nI (j + 1), XS σ g11 g12)) ∧ XI n τ ad cur m1 fo1 g11 g12 ∧ m ≤ m1 ∧ (∀ k, k < m → fo1 k = fo k) ∧ ∀ t, t < 240 → τ.2 9 (4 * a + j) = nI t → ∃ k, k < m1 ∧ fo1 k = t := by
        have hB : fRoom_countReachableCells_B60 (2 * n) x1 x3 (nI (ad a)) (nI (nrN τ a)) (nI m, nI j, XS σ f11 f12) = ((fRoom_peekRef (2 * n) (XS σ f11 f12) (nI (ad a)) (nI j)).bind fun p73 => (fRoom_noteFound (2 * n) p73.2 p73.1 (nI m)).bind fun p77 => some (1, (p77.1, nI (j + 1), p77.2))) := by
          unfold fRoom_countReachableCells_B60
          show (if nI (nrN τ a) ≤ nI j then _ else ((fRoom_peekRef (2 * n) (XS σ f11 f12) (nI (ad a)) (nI j)).bind fun p73 => (fRoom_noteFound (2 * n) p73.2 p73.1 (nI m)).bind fun p77 => some (1, (p77.1, (nI j + 1), p77.2)))) = _
          rw [if_neg (by rw [nI_le' (by omega) (by omega)]; omega), nI_1]
        rcases hp_peek hH' ha hl hjl with ⟨r1, r2⟩ | ⟨t, t1, t2, t3, t4, t5⟩
        · refine ⟨m, fo, f11, f12, ?_, hI, Nat.le_refl _, fun _ _ => rfl, fun t ht e => ?_⟩
          · rw [hB, r2, Option.bind_some]
            show Option.bind (fRoom_noteFound (2 * n) (XS σ f11 f12) (-1) (nI m)) _ = _
            have : fRoom_noteFound (2 * n) (XS σ f11 f12) (-1) (nI m) = some (nI m, XS σ f11 f12) := by unfold fRoom_noteFound; rw [if_pos rfl]
            rw [this, Option.bind_some]
          · rw [r1] at e; exact absurd e.symm (nI_m1 (by omega))
        · obtain ⟨m1, fo1, g11, g12, n1, n2, n3, n4, n5⟩ := note_ok h hI t1 t3 (hr.step hjl t1 t2)
          refine ⟨m1, fo1, g11, g12, ?_, n2, n3, n4, fun u hu e => ?_⟩
          · rw [hB, t4, Option.bind_some]
            show Option.bind (fRoom_noteFound (2 * n) (XS σ f11 f12) (nI (ad t)) (nI m)) _ = _
            rw [n1, Option.bind_some]
          · have : u = t := nI_inj (by omega) (by omega) (e.symm.trans t2)
            subst this; exact n5
      obtain ⟨m1, fo1, g11, g12, s1, s2, s3, s4, s5⟩ := hstep
      obtain ⟨m', fo', f11', f12', q1, q2, q3, q4, q5⟩ := ih (j + 1) m1 fo1 g11 g12 (by omega) (by omega) s2
      refine ⟨m', fo', f11', f12', by rw [rbLoop_go s1]; exact q1, q2, by omega, fun k hk => by rw [q4 k (by omega), s4 k hk], fun j' h1 h2 t ht e => ?_⟩
      by_cases hjj : j' = j
      · subst hjj
        obtain ⟨k, k1, k2⟩ := s5 t ht e
        exact ⟨k, by omega, by rw [q4 k k1]; exact k2⟩
      · exact q5 j' (by omega) h2 t ht e
/-- all of it -/
theorem x_outer (h : HP n nk nf run σ τ ad cur sk dl) : ∀ (K i m : Nat) (fo : Nat → Nat) (f11 f12 : Nat → Int32) (P : Nat → Bool), i ≤ m → 2 * n + 1 - i < K → XI n τ ad cur m fo f11 f12 → (∀ o, P o = true ↔ ∃ k, k < i ∧ fo k = o) → (∀ k, k < i → ∀ j, j < nrN τ (fo k) → ∀ t, t < 240 → τ.2 9 (4 * fo k + j) = nI t → ∃ k', k' < m ∧ fo k' = t) →
    ∃ m' fo' f11' f12' P', rbLoop (fRoom_countReachableCells_B14 (2 * n)) K (nI (sumTo (indS P (szN τ)) 240), nI m, nI i, XS σ f11 f12) = some (0, (nI (sumTo (indS P' (szN τ)) 240), nI m', nI m', XS σ f11' f12')) ∧ XI n τ ad cur m' fo' f11' f12' ∧ m ≤ m' ∧ (∀ k, k < m → fo' k = fo k) ∧ (∀ o, P' o = true ↔ ∃ k, k < m' ∧ fo' k = o) ∧ ∀ k, k < m' → ∀ j, j < nrN τ (fo' k) → ∀ t, t < 240 → τ.2 9 (4 * fo' k + j) = nI t → ∃ k', k' < m' ∧ fo' k' = t := by
  intro K
  induction K with
  | zero => intro i m fo f11 f12 P _ hK; omega
  | succ K ih =>
    intro i m fo f11 f12 P him hK hI hP hC
    have hm := few h (f := fo) (m := m) (fun k hk => ⟨(hI.1 k hk).1, (hI.1 k hk).2.1⟩) hI.2.1
    by_cases hie : i = m
    · subst hie
      refine ⟨i, fo, f11, f12, P, rbLoop_end ?_ (by decide), hI, Nat.le_refl _, fun _ _ => rfl, hP, hC⟩
      unfold fRoom_countReachableCells_B14
      exact if_pos (Int32.le_refl _)
    · obtain ⟨a1, a2, a3, a4⟩ := hI.1 i (by omega)
      obtain ⟨oT, hK', hf6, hn2, hb, hhd, -⟩ := hp_obj h a1 a2
      have z : szN τ (fo i) = 1 + nrN τ (fo i) + niN τ (fo i) := rfl
      obtain ⟨m1, fo1, g11, g12, q1, q2, q3, q4, q5⟩ := x_inner h (x1 := nI (sumTo (indS P (szN τ)) 240) + nI (szN τ (fo i))) (x3 := nI i) a1 a2 a3 rbF 0 m fo f11 f12 (by omega) (by rw [rbF_val]; have := (ob_nr hK' oT).1; omega) hI
      have hPi : P (fo i) = false := by
        cases hp : P (fo i)
        · rfl
        · obtain ⟨k, k1, k2⟩ := (hP (fo i)).mp hp
          have := hI.2.1 k i (by omega) (by omega) k2
          omega
      have hstep : fRoom_countReachableCells_B14 (2 * n) (nI (sumTo (indS P (szN τ)) 240), nI m, nI i, XS σ f11 f12) = some (1, (nI (sumTo (indS (addP P (fo i)) (szN τ)) 240), nI m1, nI (i + 1), XS σ g11 g12)) := by
        have ti : (nI i).toNatClampNeg = i := nI_tc (by omega)
        unfold fRoom_countReachableCells_B14
        show (if nI m ≤ nI i then _ else (if nI (2 * n) ≤ nI i then _ else (if ix (nI i) (2 * n) then ((fRoom_refsOf (2 * n) (XS σ f11 f12) (f11 (nI i).toNatClampNeg)).bind fun p39 => if ix (f11 (nI i).toNatClampNeg) (2 * n) then ((fRoom_sizeIn (2 * n) p39.2 ((p39.2.2 10) (f11 (nI i).toNatClampNeg).toNatClampNeg)).bind fun p52 => (rbLoop (fRoom_countReachableCells_B60 (2 * n) (nI (sumTo (indS P (szN τ)) 240) + p52.1) (nI i) (f11 (nI i).toNatClampNeg) p39.1) rbF (nI m, 0, p52.2)).bind fun q60 => some (1, ((nI (sumTo (indS P (szN τ)) 240) + p52.1), q60.2.1, (nI i + 1), q60.2.2.2))) else none) else none))) = _
        rw [if_neg (by rw [nI_le' (by omega) (by omega)]; omega), if_neg (by rw [nI_le' (by omega) (by omega)]; omega), gd (ix_n (by omega) (by omega)), ti, a4]
        have hr1 : fRoom_refsOf (2 * n) (XS σ f11 f12) (nI (ad (fo i))) = some (nI (nrN τ (fo i)), XS σ f11 f12) := x_refsOf (by omega) (by omega) hhd
        rw [hr1, Option.bind_some, gd (ix_n (by omega) (by omega)), nI_tc (show ad (fo i) < 100000 by omega)]
        have hs1 : fRoom_sizeIn (2 * n) (XS σ f11 f12) ((XS σ f11 f12).2 10 (ad (fo i))) = some (nI (1 + nrN τ (fo i) + niN τ (fo i)), XS σ f11 f12) := x_sizeIn hhd
        show Option.bind (fRoom_sizeIn (2 * n) (XS σ f11 f12) ((XS σ f11 f12).2 10 (ad (fo i)))) _ = _
        rw [hs1, Option.bind_some]
        show Option.bind (rbLoop (fRoom_countReachableCells_B60 (2 * n) (nI (sumTo (indS P (szN τ)) 240) + nI (szN τ (fo i))) (nI i) (nI (ad (fo i))) (nI (nrN τ (fo i)))) rbF (nI m, nI 0, XS σ f11 f12)) _ = _
        rw [q1, Option.bind_some]
        show some (1, (nI (sumTo (indS P (szN τ)) 240) + nI (szN τ (fo i)), nI m1, nI i + 1, XS σ g11 g12)) = _
        rw [nI_add, nI_1, ind_add hPi 240 a1]
      obtain ⟨m', fo', f11', f12', P', w1, w2, w3, w4, w5, w6⟩ := ih (i + 1) m1 fo1 g11 g12 (addP P (fo i)) (by omega) (by omega) q2 (by
        intro o
        rw [addP_iff, hP o]
        constructor
        · rintro (⟨k, k1, k2⟩ | e)
          · exact ⟨k, by omega, by rw [q4 k (by omega)]; exact k2⟩
          · exact ⟨i, by omega, by rw [q4 i (by omega)]; exact e.symm⟩
        · rintro ⟨k, k1, k2⟩
          rw [q4 k (by omega)] at k2
          by_cases hki : k = i
          · subst hki; exact Or.inr k2.symm
          · exact Or.inl ⟨k, by omega, k2⟩) (by
        intro k hk j hj t ht e
        rw [q4 k (by omega)] at hj e
        by_cases hki : k = i
        · subst hki
          exact q5 j (by omega) hj t ht e
        · obtain ⟨k', b1, b2⟩ := hC k (by omega) j hj t ht e
          exact ⟨k', by omega, by rw [q4 k' b1]; exact b2⟩)
      refine ⟨m', fo', f11', f12', P', by rw [rbLoop_go hstep]; exact w1, w2, by omega, fun k hk => by rw [w4 k (by omega), q4 k hk], w5, w6⟩
theorem x_live (h : HP n nk nf run σ τ ad cur sk dl) (hz : ∀ y, σ.2 12 y = 0) : ∃ P f11 f12, fRoom_countReachableCells (2 * n) σ = some (nI (sumTo (indS P (szN τ)) 240), XS σ f11 f12) ∧ (∀ o, P o = true ↔ Rch τ cur o) ∧ ∀ y, f12 y = 0 := by
  have h0 := h
  obtain ⟨-, c1, c2, c3, c4, -⟩ := h
  have c8 : τ.2 6 cur ≠ 0 := by rcases c2 with h | h <;> rw [h] <;> decide
  have hn : n ≤ 120 := (hp_obj h0 c1 c8).2.2.2.1
  have e0 : XS σ (σ.2 11) (σ.2 12) = σ := by
    show (σ.1, va_up (va_up σ.2 12 (σ.2 12)) 11 (σ.2 11)) = σ
    rw [va_id, va_id]
  have hI0 : XI n τ ad cur 0 (fun _ => 0) (σ.2 11) (σ.2 12) := ⟨fun k hk => absurd hk (by omega), fun i j hi => absurd hi (by omega), fun k hk => absurd hk (by omega), fun y _ => hz y⟩
  obtain ⟨m, fo, f11, f12, n1, n2, n3, n4, n5⟩ := note_ok h0 hI0 c1 c8 Rch.base
  obtain ⟨m', fo', g11, g12, P', w1, w2, w3, w4, w5, w6⟩ := x_outer h0 rbF 0 m fo f11 f12 (fun _ => false) (by omega) (by rw [rbF_val]; omega) n2 (fun o => ⟨fun e => absurd e (by decide), fun ⟨k, k1, _⟩ => absurd k1 (by omega)⟩) (fun k hk => absurd hk (by omega))
  have hm := few h0 (f := fo') (m := m') (fun k hk => ⟨(w2.1 k hk).1, (w2.1 k hk).2.1⟩) w2.2.1
  obtain ⟨v1, v2, v3, v4⟩ := w2
  -- cleaning up
  have hcl : ∀ (K i : Nat) (f : Nat → Int32), i ≤ m' → m' - i < K → (∀ y, (∀ k, i ≤ k → k < m' → y ≠ ad (fo' k)) → f y = 0) → ∃ f', rbLoop (fRoom_countReachableCells_B95 (2 * n) (nI (sumTo (indS P' (szN τ)) 240)) (nI m')) K (nI i, XS σ g11 f) = some (0, (nI m', XS σ g11 f')) ∧ ∀ y, f' y = 0 := by
    intro K
    induction K with
    | zero => intro i f _ hK; omega
    | succ K ih =>
      intro i f hi hK hf
      by_cases him : i = m'
      · subst him
        refine ⟨f, rbLoop_end ?_ (by decide), fun y => hf y (fun k h1 h2 => absurd h2 (by omega))⟩
        unfold fRoom_countReachableCells_B95
        exact if_pos (Int32.le_refl _)
      · obtain ⟨a1, a2, a3, a4⟩ := v1 i (by omega)
        have hb := (hp_obj h0 a1 a2).2.2.2.2.1
        have z : szN τ (fo' i) = 1 + nrN τ (fo' i) + niN τ (fo' i) := rfl
        obtain ⟨f', q1, q2⟩ := ih (i + 1) (upd f (ad (fo' i)) 0) (by omega) (by omega) (fun y hy => by
          by_cases hya : y = ad (fo' i)
          · rw [hya, upd_s]
          · rw [upd_n hya]
            refine hf y (fun k h1 h2 => ?_)
            by_cases hki : k = i
            · rw [hki]; exact hya
            · exact hy k (by omega) h2)
        refine ⟨f', ?_, q2⟩
        rw [rbLoop_go (s' := (nI (i + 1), XS σ g11 (upd f (ad (fo' i)) 0)))]
        · exact q1
        · unfold fRoom_countReachableCells_B95
          show (if nI m' ≤ nI i then _ else (if ix (nI i) (2 * n) then (if ix (g11 (nI i).toNatClampNeg) (2 * n) then some (1, (nI i + 1, (σ.1, va_up (va_up (va_up σ.2 12 f) 11 g11) 12 (upd f (g11 (nI i).toNatClampNeg).toNatClampNeg 0)))) else none) else none)) = _
          have hsw : ∀ g : Nat → Int32, va_up (va_up (va_up σ.2 12 f) 11 g11) 12 g = va_up (va_up σ.2 12 g) 11 g11 := by
            intro g
            funext k
            by_cases h12 : k = 12
            · subst h12; rw [va_up_self, va_up_n (by decide), va_up_self]
            · rw [va_up_n h12]
              by_cases h11 : k = 11
              · subst h11; rw [va_up_self, va_up_self]
              · rw [va_up_n h11, va_up_n h12, va_up_n h11, va_up_n h12]
          rw [if_neg (by rw [nI_le' (by omega) (by omega)]; omega), gd (ix_n (by omega) (by omega)), nI_tc (by omega), a4, gd (ix_n (by omega) (by omega)), nI_tc (by omega), hsw, nI_1]
  obtain ⟨f', q1, q2⟩ := hcl rbF 0 g12 (by omega) (by rw [rbF_val]; omega) (fun y hy => v4 y (fun k hk => hy k (by omega) hk))
  refine ⟨P', g11, f', ?_, fun o => ⟨fun e => ?_, fun e => ?_⟩, q2⟩
  · unfold fRoom_countReachableCells
    rw [c4]
    have n1' : fRoom_noteFound (2 * n) σ (nI (ad cur)) 0 = some (nI m, XS σ f11 f12) := by
      have := n1
      rw [e0] at this
      exact this
    rw [n1', Option.bind_some]
    have w1' : rbLoop (fRoom_countReachableCells_B14 (2 * n)) rbF (0, nI m, 0, XS σ f11 f12) = some (0, (nI (sumTo (indS P' (szN τ)) 240), nI m', nI m', XS σ g11 g12)) := by
      have := w1
      rw [ind_none] at this
      exact this
    show Option.bind (rbLoop (fRoom_countReachableCells_B14 (2 * n)) rbF (0, nI m, 0, XS σ f11 f12)) _ = _
    rw [w1', Option.bind_some]
    unfold fRoom_countReachableCells_J93
    show Option.bind (rbLoop (fRoom_countReachableCells_B95 (2 * n) (nI (sumTo (indS P' (szN τ)) 240)) (nI m')) rbF (nI 0, XS σ g11 g12)) _ = _
    rw [q1, Option.bind_some]
  · obtain ⟨k, k1, k2⟩ := (w5 o).mp e
    rw [← k2]; exact (v1 k k1).2.2.1
  · refine e (fun o => P' o = true) ?_ (fun a j t ha hj ht et => ?_)
    · obtain ⟨k, k1, k2⟩ := n5
      exact (w5 cur).mpr ⟨k, by omega, by rw [w4 k k1]; exact k2⟩
    · obtain ⟨k, k1, k2⟩ := (w5 a).mp ha
      rw [← k2] at hj et
      exact (w5 t).mpr (w6 k k1 j hj t ht et)
end LX
