/-! what doesn't lie in the room: kinds, methods, what was shown; and the running machine's heap with its chain of frames -/
def lenN (τ : St) (m : Nat) : Nat := (τ.2 4 m).toNatClampNeg
/-- an instruction as code lets it in -/
def WF (nk : Nat) (op x y z : Int32) : Prop := ∃ o, o < 16 ∧ op = nI o ∧ (o ≠ 9 → ∃ a, a < 3 ∧ x = nI a) ∧ (o = 1 ∨ o = 3 ∨ (5 ≤ o ∧ o ≤ 8) ∨ o = 12 ∨ o = 13 → ∃ a, a < 3 ∧ y = nI a) ∧ (o = 1 ∨ (5 ≤ o ∧ o ≤ 8) → ∃ a, a < 3 ∧ z = nI a) ∧ (o = 2 → ∃ a, a < nk ∧ z = nI a) ∧ (9 ≤ o ∧ o ≤ 11 → ∃ a, a < 12 ∧ z = nI a) ∧ (o = 12 → ∃ a, a < 4 ∧ z = nI a)
def RK (σ τ : St) (nk nf : Nat) : Prop := σ.1 6 = nI nk ∧ τ.1 2 = nI nk ∧ KdT τ nk ∧ ∀ k, k < nk → σ.2 1 k = τ.2 0 k ∧ σ.2 2 k = τ.2 1 k ∧ ∀ s, s < 4 → σ.2 3 (4 * k + s) = τ.2 2 (4 * k + s) ∧ (τ.2 2 (4 * k + s) = -1 ∨ ∃ m, m < nf ∧ τ.2 2 (4 * k + s) = nI m)
/-- a method's rows, class beside reference -/
def RM1 (σ τ : St) (nk m : Nat) : Prop := σ.2 4 m = τ.2 3 m ∧ (τ.2 3 m = -1 ∨ ∃ h, h < 12 ∧ τ.2 3 m = nI h) ∧ lenN τ m ≤ 12 ∧ σ.2 5 m = nI (lenN τ m) ∧ τ.2 4 m = nI (lenN τ m) ∧ ∀ k, k < lenN τ m → σ.2 6 (12 * m + k) = τ.2 5 (48 * m + 4 * k) ∧ σ.2 7 (12 * m + k) = τ.2 5 (48 * m + 4 * k + 1) ∧ σ.2 8 (12 * m + k) = τ.2 5 (48 * m + 4 * k + 2) ∧ σ.2 9 (12 * m + k) = τ.2 5 (48 * m + 4 * k + 3) ∧ WF nk (τ.2 5 (48 * m + 4 * k)) (τ.2 5 (48 * m + 4 * k + 1)) (τ.2 5 (48 * m + 4 * k + 2)) (τ.2 5 (48 * m + 4 * k + 3))
/-- a finished one -/
def Fin1 (τ : St) (m : Nat) : Prop := 1 ≤ lenN τ m ∧ (τ.2 5 (48 * m + 4 * (lenN τ m - 1)) = nI 9 ∨ τ.2 5 (48 * m + 4 * (lenN τ m - 1)) = nI 13 ∨ τ.2 5 (48 * m + 4 * (lenN τ m - 1)) = nI 14) ∧ (∀ k, k < lenN τ m → (τ.2 5 (48 * m + 4 * k) = nI 9 ∨ τ.2 5 (48 * m + 4 * k) = nI 10 ∨ τ.2 5 (48 * m + 4 * k) = nI 11) → ∃ z, z < lenN τ m ∧ τ.2 5 (48 * m + 4 * k + 3) = nI z) ∧ (τ.2 3 m = -1 ∨ ∃ h, h < lenN τ m ∧ τ.2 3 m = nI h)
def RM (σ τ : St) (nk nf op : Nat) : Prop := σ.1 7 = nI nf ∧ σ.1 8 = nI op ∧ τ.1 4 = nI op ∧ τ.1 3 = nI (nf + op) ∧ op ≤ 1 ∧ nf + op ≤ 6 ∧ (∀ m, m < nf + op → RM1 σ τ nk m) ∧ ∀ m, m < nf → Fin1 τ m
def RS (σ τ : St) : Prop := ∃ k : Nat, σ.1 0 = nI k ∧ τ.1 15 = nI k ∧ ∀ j, j < 8 → j < k → τ.2 14 j = σ.2 0 ((k - 1 - j) % 8)
def Stat (n : Nat) (σ τ : St) (nk nf op pc : Nat) : Prop := RK σ τ nk nf ∧ RM σ τ nk nf op ∧ RS σ τ ∧ (σ.1 10 = nI pc ∧ τ.1 1 = nI pc ∧ pc ≤ 8) ∧ (σ.1 9 = nI n ∧ τ.1 0 = nI n ∧ 24 ≤ n ∧ n ≤ 120) ∧ σ.1 4 = τ.1 11 ∧ σ.1 5 = τ.1 17 ∧ (σ.1 3 = τ.1 10 ∧ (τ.1 10 = 0 ∨ τ.1 10 = 1)) ∧ ∀ y, σ.2 12 y = 0
theorem WF.mono {nk nk' : Nat} {op x y z : Int32} (hle : nk ≤ nk') (h : WF nk op x y z) : WF nk' op x y z := by
  obtain ⟨o, h1, h2, h3, h4, h5, h6, h7⟩ := h
  exact ⟨o, h1, h2, h3, h4, h5, fun e => by obtain ⟨a, b, c⟩ := h6 e; exact ⟨a, by omega, c⟩, h7⟩
theorem RK.k {σ τ σ' τ' : St} {nk nf : Nat} (h : RK σ τ nk nf) (hX : XK σ σ') (hM : MK τ τ') : RK σ' τ' nk nf := by
  unfold RK KdT at h ⊢
  rw [hX.1 6 (by omega), hX.2 1 (by omega), hX.2 2 (by omega), hX.2 3 (by omega), hM.1 2 (by decide) (by decide) (by decide) (by decide) (by decide) (by decide) (by decide), hM.2 0 (by omega), hM.2 1 (by omega), hM.2 2 (by omega)]
  exact h
theorem RM.k {σ τ σ' τ' : St} {nk nf op : Nat} (h : RM σ τ nk nf op) (hX : XK σ σ') (hM : MK τ τ') : RM σ' τ' nk nf op := by
  unfold RM RM1 Fin1 lenN at h ⊢
  rw [hX.1 7 (by omega), hX.1 8 (by omega), hX.2 4 (by omega), hX.2 5 (by omega), hX.2 6 (by omega), hX.2 7 (by omega), hX.2 8 (by omega), hX.2 9 (by omega), hM.1 3 (by decide) (by decide) (by decide) (by decide) (by decide) (by decide) (by decide), hM.1 4 (by decide) (by decide) (by decide) (by decide) (by decide) (by decide) (by decide), hM.2 3 (by omega), hM.2 4 (by omega), hM.2 5 (by omega)]
  exact h
theorem RS.k {σ τ σ' τ' : St} (h : RS σ τ) (hX : XK σ σ') (hM : MK τ τ') : RS σ' τ' := by
  unfold RS at h ⊢
  rw [hX.1 0 (by omega), hX.2 0 (by omega), hM.1 15 (by decide) (by decide) (by decide) (by decide) (by decide) (by decide) (by decide), hM.2 14 (by omega)]
  exact h
theorem Stat.k {n nk nf op pc : Nat} {σ τ σ' τ' : St} (h : Stat n σ τ nk nf op pc) (hX : XK σ σ') (hM : MK τ τ') : Stat n σ' τ' nk nf op pc := by
  obtain ⟨h1, h2, h3, h4, h5, h6, h7, h8, h9⟩ := h
  refine ⟨h1.k hX hM, h2.k hX hM, h3.k hX hM, ?_, ?_, ?_, ?_, ?_, ?_⟩
  · rw [hX.1 10 (by omega), hM.1 1 (by decide) (by decide) (by decide) (by decide) (by decide) (by decide) (by decide)]; exact h4
  · rw [hX.1 9 (by omega), hM.1 0 (by decide) (by decide) (by decide) (by decide) (by decide) (by decide) (by decide)]; exact h5
  · rw [hX.1 4 (by omega), hM.1 11 (by decide) (by decide) (by decide) (by decide) (by decide) (by decide) (by decide)]; exact h6
  · rw [hX.1 5 (by omega), hM.1 17 (by decide) (by decide) (by decide) (by decide) (by decide) (by decide) (by decide)]; exact h7
  · rw [hX.1 3 (by omega), hM.1 10 (by decide) (by decide) (by decide) (by decide) (by decide) (by decide) (by decide)]; exact h8
  · rw [hX.2 12 (by omega)]; exact h9
/-- a frame's place has an instruction -/
def PlOK (τ : St) (p : Nat) : Prop := ∃ m q, τ.2 8 p = nI m ∧ m < 6 ∧ q < lenN τ m ∧ τ.2 10 (4 * p + 3) = nI q
/-- the heap of a machine that was started -/
def HP (n nk nf : Nat) (run : Prop) (σ τ : St) (ad : Nat → Nat) (cur : Nat) (sk : Nat → Nat) (dl : Nat) : Prop :=
  (∃ fr ro bs re ns rl so cc, RH n nk nf run σ τ ad fr ro bs re ns rl so cc so cc) ∧ cur < 240 ∧ (τ.2 6 cur = 1 ∨ τ.2 6 cur = 2) ∧ τ.1 9 = nI cur ∧ σ.1 11 = nI (ad cur) ∧ Ch τ sk dl ∧ sk 0 = cur ∧ (∀ i, 1 ≤ i → i < dl → PlOK τ (sk i)) ∧ σ.1 19 = τ.1 16 ∧ σ.1 18 = τ.1 14
/-- a value that is here: what ref (o, j) of the reference may hold, and its address -/
def CVl (τ : St) (ad : Nat → Nat) (o j : Nat) (p v : Int32) : Prop := (p = -1 ∧ v = -1) ∨ ∃ t, t < 240 ∧ p = nI t ∧ (τ.2 6 t = 1 ∨ τ.2 6 t = 2) ∧ v = nI (ad t) ∧ (τ.2 7 t = -1 ↔ (τ.2 7 o = -1 ∧ j = 3))
section HPs
variable {n nk nf : Nat} {run : Prop} {σ τ : St} {ad : Nat → Nat} {cur dl o j : Nat} {sk : Nat → Nat}
theorem PlOK.same {τ τ' : St} {p : Nat} (h : PlOK τ p) (e8 : τ'.2 8 p = τ.2 8 p) (e10 : τ'.2 10 (4 * p + 3) = τ.2 10 (4 * p + 3)) (e4 : τ'.2 4 = τ.2 4) : PlOK τ' p := by
  obtain ⟨m, q, h1, h2, h3, h4⟩ := h
  exact ⟨m, q, by rw [e8]; exact h1, h2, by unfold lenN; rw [e4]; exact h3, by rw [e10]; exact h4⟩
theorem hp_curk (h : HP n nk nf run σ τ ad cur sk dl) : τ.2 7 cur = -1 ∧ nrN τ cur = 4 ∧ niN τ cur = 4 := by
  obtain ⟨-, -, -, -, -, hC, hs, -⟩ := h
  have := (hC.2.1 0 (by have := hC.1; omega)).2.2
  rw [hs] at this
  exact ⟨this, (frame_nr this).1, (frame_nr this).2.1⟩
/-- reading a ref -/
theorem hp_read (h : HP n nk nf True σ τ ad cur sk dl) (hf : σ.1 20 = 0) (hst : τ.1 12 = 0) (ho : o < 240) (ha : τ.2 6 o = 1 ∨ τ.2 6 o = 2) (hj : j < nrN τ o) :
    ∃ r σ' b τ' ad', fRoom_readRef (2 * n) σ (nI (ad o)) (nI j) = some (r, σ') ∧ fMod_read τ (nI (4 * o + j)) = some (b, τ') ∧ XK σ σ' ∧ MK τ τ' ∧ sameB τ τ' ∧ σ'.1 11 = σ.1 11 ∧ (∀ p, (τ.2 6 p = 1 ∨ τ.2 6 p = 2) → τ'.2 6 p = τ.2 6 p ∧ ad' p = ad p) ∧ HP n nk nf True σ' τ' ad' cur sk dl ∧
      ((σ'.1 20 = 1 ∧ τ'.1 12 = 3 ∧ b = 0 ∧ r ≠ -1) ∨ (σ'.1 20 = 0 ∧ τ'.1 12 = 0 ∧ b = 1 ∧ CVl τ' ad' o j (τ.2 9 (4 * o + j)) r)) := by
  obtain ⟨⟨fr, ro, bs, re, ns, rl, so, cc, hR⟩, h1, h2, h3, h4, hC, hs, hpl, hw, hfl⟩ := h
  obtain ⟨r, σ', b, τ', ad', fr', ro', re', rl', hX, hM, eX, eM, hsm, hR', hw', hcase⟩ := read_sim hR hf hst hw ho ha hj
  have hno3 : ∀ p, (τ.2 6 p = 1 ∨ τ.2 6 p = 2) → τ.2 6 p ≠ 3 := fun p hp => by rcases hp with h | h <;> rw [h] <;> decide
  have sb : sameB τ τ' := ⟨eM.2.1 7 (by decide) (by decide), eM.2.1 8 (by decide) (by decide), eM.2.1 9 (by decide) (by decide), eM.2.1 10 (by decide) (by decide)⟩
  refine ⟨r, σ', b, τ', ad', hX, hM, eX.to2.xk, eM.to2.mk, sb, eX.1 11 (by decide) (by decide) (by decide), fun p hp => ⟨eM.2.2.1 p (hno3 p hp), hsm p (hno3 p hp)⟩, ?_, ?_⟩
  · refine ⟨⟨fr', ro', bs, re', ns, rl', so, cc, hR'⟩, h1, by rw [eM.2.2.1 cur (hno3 cur h2)]; exact h2, ?_, ?_, hC.same sb (fun i hi => eM.2.2.2 _ (hC.2.1 i hi).2.1), hs, fun i hi1 hi2 => (hpl i hi1 hi2).same (by rw [sb.2.1]) (by rw [sb.2.2.2]) (eM.2.1 4 (by decide) (by decide)), hw', ?_⟩
    · rw [eM.1 9 (by decide) (by decide) (by decide) (by decide)]; exact h3
    · rw [eX.1 11 (by decide) (by decide) (by decide), hsm cur (hno3 cur h2)]; exact h4
    · rw [eX.1 18 (by decide) (by decide) (by decide), eM.1 14 (by decide) (by decide) (by decide) (by decide)]; exact hfl
  · rcases hcase with c | ⟨c1, c2, c3, c4, c5⟩
    · exact Or.inl c
    · refine Or.inr ⟨c1, c2, c3, ?_⟩
      unfold RefOK at c4
      unfold Clean at c5
      rw [sb.2.2.1] at c4 c5
      rcases c5 with c5 | ⟨t, t1, t2, t3, t4⟩
      · exact Or.inl c5
      · rcases c4 with c4 | ⟨u, u1, u2, u3, u4, -⟩
        · rw [t2] at c4; exact absurd c4.1 (nI_m1 (by omega))
        · have : t = u := nI_inj (by omega) (by omega) (t2.symm.trans u2)
          subst this
          exact Or.inr ⟨t, t1, t2, t3, t4, u4⟩
/-- what HP says of an object that is here -/
theorem hp_obj (h : HP n nk nf run σ τ ad cur sk dl) (ho : o < 240) (ha : τ.2 6 o ≠ 0) : ObT τ nk nf o ∧ KdT τ nk ∧ nf ≤ 6 ∧ n ≤ 120 ∧ ad o + szN τ o ≤ 2 * n ∧ isHd (σ.2 10 (ad o)) (idN τ o) (nrN τ o) (niN τ o) ∧ (∀ i, i < niN τ o → σ.2 10 (ad o + 1 + nrN τ o + i) = τ.2 10 (4 * o + i)) := by
  obtain ⟨⟨fr, ro, bs, re, ns, rl, so, cc, hR⟩, -⟩ := h
  obtain ⟨⟨hn1, hn2, hf6, hK⟩, hG, hO, -⟩ := hR
  obtain ⟨g1, g2, g3, g4, g5, g6, g7, g8, g9, g10, g11⟩ := hG
  obtain ⟨oa, oT, oH, o1, o2, o3, oI, oR⟩ := hO o ho ha
  refine ⟨oT, hK, hf6, hn2, ?_, ⟨ob_id hK hf6 oT, (ob_nr hK oT).1, (ob_nr hK oT).2, oH⟩, oI⟩
  rcases oa with h | h | h
  · have := o1 h; omega
  · have := o2 h; omega
  · have := o3 h; omega
/-- writing a ref -/
theorem hp_setRef (h : HP n nk nf run σ τ ad cur sk dl) (ho : o < 240) (ha : τ.2 6 o = 1 ∨ τ.2 6 o = 2) (hj : j < nrN τ o) (hch : j ≠ 3 ∨ ∀ i, i < dl → sk i ≠ o) {p v : Int32} (hv : CVl τ ad o j p v) :
    fRoom_setRef (2 * n) σ (nI (ad o)) (nI j) v = some (σ.1, va_up σ.2 10 (upd (σ.2 10) (ad o + 1 + j) v)) ∧ HP n nk nf run (σ.1, va_up σ.2 10 (upd (σ.2 10) (ad o + 1 + j) v)) (τ.1, va_up τ.2 9 (upd (τ.2 9) (4 * o + j) p)) ad cur sk dl := by
  have hne : τ.2 6 o ≠ 0 := by rcases ha with h | h <;> rw [h] <;> decide
  obtain ⟨oT, hK, hf6, hn2, hb, hhd, -⟩ := hp_obj h ho hne
  have hnr := ob_nr hK oT
  have hsz : szN τ o = 1 + nrN τ o + niN τ o := rfl
  refine ⟨x_setRef (by omega) (by omega), ?_⟩
  obtain ⟨⟨fr, ro, bs, re, ns, rl, so, cc, hR⟩, h1, h2, h3, h4, hC, hs, hpl, hw, hfl⟩ := h
  refine ⟨⟨fr, ro, bs, re, ns, rl, so, cc, ?_⟩, h1, h2, h3, h4, ?_, hs, hpl, hw, hfl⟩
  · refine RH_write (v := v) (x := 1 + j) hR ho ha (by omega) (by omega) rfl rfl rfl rfl rfl rfl rfl ?_ rfl rfl rfl rfl rfl ⟨rfl, rfl, rfl, rfl, rfl, rfl⟩ ?_ (fun _ _ _ _ _ => rfl) ?_ ?_
    · show upd (σ.2 10) (ad o + 1 + j) v = _
      rw [show ad o + 1 + j = ad o + (1 + j) by omega]
    · intro q i hq hi hne2
      show upd (τ.2 9) (4 * o + j) p (4 * q + i) = _
      refine upd_n ?_
      intro e
      omega
    · intro i hi hix
      have : i = j := by omega
      subst this
      have e9 : (va_up τ.2 9 (upd (τ.2 9) (4 * o + i) p)) 9 (4 * o + i) = p := upd_s
      refine ⟨?_, fun _ => ?_⟩
      · unfold RefOK
        show ((va_up τ.2 9 (upd (τ.2 9) (4 * o + i) p)) 9 (4 * o + i) = -1 ∧ v = -1) ∨ _
        rcases hv with hv | ⟨t, t1, t2, t3, t4, t5⟩
        · exact Or.inl ⟨e9.trans hv.1, hv.2⟩
        · exact Or.inr ⟨t, t1, e9.trans t2, (show τ.2 6 t ≠ 0 by rcases t3 with h | h <;> rw [h] <;> decide), t5, Or.inl t4⟩
      · unfold Clean
        show ((va_up τ.2 9 (upd (τ.2 9) (4 * o + i) p)) 9 (4 * o + i) = -1 ∧ v = -1) ∨ _
        rcases hv with hv | ⟨t, t1, t2, t3, t4, t5⟩
        · exact Or.inl ⟨e9.trans hv.1, hv.2⟩
        · exact Or.inr ⟨t, t1, e9.trans t2, t3, t4⟩
    · intro i hi hix; omega
  · obtain ⟨c1, c2, c3, c4, c5⟩ := hC
    have key : ∀ i, i < dl → upd (τ.2 9) (4 * o + j) p (4 * sk i + 3) = τ.2 9 (4 * sk i + 3) := by
      intro i hi
      refine upd_n ?_
      rcases hch with h | h
      · omega
      · have := h i hi; omega
    exact ⟨c1, c2, fun i hi => (key i (by omega)).trans (c3 i hi), (key (dl - 1) (by omega)).trans c4, c5⟩
/-- writing an int -/
theorem hp_setInt (h : HP n nk nf run σ τ ad cur sk dl) (ho : o < 240) (ha : τ.2 6 o = 1 ∨ τ.2 6 o = 2) (hj : j < niN τ o) (hch : j ≠ 3 ∨ ∀ i, 1 ≤ i → i < dl → sk i ≠ o) (v : Int32) :
    fRoom_setInt (2 * n) σ (nI (ad o)) (nI j) v = some (σ.1, va_up σ.2 10 (upd (σ.2 10) (ad o + 1 + nrN τ o + j) v)) ∧ HP n nk nf run (σ.1, va_up σ.2 10 (upd (σ.2 10) (ad o + 1 + nrN τ o + j) v)) (τ.1, va_up τ.2 10 (upd (τ.2 10) (4 * o + j) v)) ad cur sk dl := by
  have hne : τ.2 6 o ≠ 0 := by rcases ha with h | h <;> rw [h] <;> decide
  obtain ⟨oT, hK, hf6, hn2, hb, hhd, -⟩ := hp_obj h ho hne
  have hnr := ob_nr hK oT
  have hsz : szN τ o = 1 + nrN τ o + niN τ o := rfl
  refine ⟨x_setInt (by omega) hhd (by omega), ?_⟩
  obtain ⟨⟨fr, ro, bs, re, ns, rl, so, cc, hR⟩, h1, h2, h3, h4, hC, hs, hpl, hw, hfl⟩ := h
  refine ⟨⟨fr, ro, bs, re, ns, rl, so, cc, ?_⟩, h1, h2, h3, h4, hC, hs, ?_, hw, hfl⟩
  · refine RH_write (v := v) (x := 1 + nrN τ o + j) hR ho ha (by omega) (by omega) rfl rfl rfl rfl rfl rfl rfl ?_ rfl rfl rfl rfl rfl ⟨rfl, rfl, rfl, rfl, rfl, rfl⟩ (fun _ _ _ _ _ => rfl) ?_ ?_ ?_
    · show upd (σ.2 10) (ad o + 1 + nrN τ o + j) v = _
      rw [show ad o + 1 + nrN τ o + j = ad o + (1 + nrN τ o + j) by omega]
    · intro q i hq hi hne2
      show upd (τ.2 10) (4 * o + j) v (4 * q + i) = _
      refine upd_n ?_
      intro e
      have hqo : q = o := by omega
      subst hqo
      omega
    · intro i hi hix; omega
    · intro i hi hix
      have : i = j := by omega
      subst this
      exact upd_s
  · intro i hi1 hi2
    refine (hpl i hi1 hi2).same rfl ?_ rfl
    show upd (τ.2 10) (4 * o + j) v (4 * sk i + 3) = _
    refine upd_n ?_
    rcases hch with h | h
    · omega
    · have := h i hi1 hi2; omega
/-- reading an int -/
theorem hp_int (h : HP n nk nf run σ τ ad cur sk dl) (ho : o < 240) (ha : τ.2 6 o ≠ 0) (hj : j < niN τ o) : fRoom_intOf (2 * n) σ (nI (ad o)) (nI j) = some (τ.2 10 (4 * o + j), σ) := by
  obtain ⟨oT, hK, hf6, hn2, hb, hhd, hI⟩ := hp_obj h ho ha
  have hsz : szN τ o = 1 + nrN τ o + niN τ o := rfl
  rw [x_intOf (by omega) hhd (by omega), hI j hj]
end HPs
