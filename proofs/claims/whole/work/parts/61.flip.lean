/-! a flip -/
def fla (a : Int32) : Int32 := if a = 3 then 0 else if a = 0 then a else 3
def flA (τ : St) (i : Nat) : Nat → Int32 := fun p => if p < i then fla (τ.2 6 p) else τ.2 6 p
theorem flA_s {τ : St} {i : Nat} : upd (flA τ i) i (fla (τ.2 6 i)) = flA τ (i + 1) := by
  funext p
  by_cases h : p = i
  · subst h; rw [upd_s]; unfold flA; rw [if_pos (by omega)]
  · rw [upd_n h]; unfold flA
    by_cases h2 : p < i
    · rw [if_pos h2, if_pos (by omega)]
    · rw [if_neg h2, if_neg (by omega)]
theorem m_flipLoop (τ : St) : rbLoop fMod_flip_B2 rbF (0, τ) = some (0, (nI 240, (τ.1, va_up τ.2 6 (flA τ 240)))) := by
  have hcnt := rbLoop_count (f := fMod_flip_B2) (fun i => (nI i, (τ.1, va_up τ.2 6 (flA τ i)))) 240 ?_ 0 (nI 240, (τ.1, va_up τ.2 6 (flA τ 240))) (by decide) ?_ rbF 0 (by omega) (by rw [rbF_val]; omega)
  · have e0 : va_up τ.2 6 (flA τ 0) = τ.2 := by
      funext k
      by_cases h : k = 6
      · subst h; rw [va_up_self]; funext p; unfold flA; rw [if_neg (by omega)]
      · rw [va_up_n h]
    rw [e0] at hcnt
    exact hcnt
  · intro i hi
    have hg : ix (nI i) 240 := ix_n hi (by omega)
    have hc : (nI i).toNatClampNeg = i := nI_tc (by omega)
    have hlt : ¬ (240 : Int32) ≤ nI i := by rw [show (240 : Int32) = nI 240 from rfl, nI_le' (by omega) (by omega)]; omega
    have e1 : nI i + 1 = nI (i + 1) := nI_1 i
    show fMod_flip_B2 (nI i, (τ.1, va_up τ.2 6 (flA τ i))) = some (1, (nI (i + 1), (τ.1, va_up τ.2 6 (flA τ (i + 1)))))
    rw [← e1]
    have hat : flA τ i i = τ.2 6 i := by unfold flA; rw [if_neg (by omega)]
    have hs := flA_s (τ := τ) (i := i)
    generalize nI i = I at hg hc hlt ⊢
    subst hc
    unfold fMod_flip_B2 fMod_flip_B2_J45
    show (if (240 : Int32) ≤ I then _ else if ix I 240 then (if flA τ I.toNatClampNeg I.toNatClampNeg = 3 then (if ix I 240 then some (1, (I + 1, (τ.1, va_up (va_up τ.2 6 (flA τ I.toNatClampNeg)) 6 (upd (flA τ I.toNatClampNeg) I.toNatClampNeg 0)))) else none) else (if ix I 240 then (if flA τ I.toNatClampNeg I.toNatClampNeg = 0 then some (1, (I + 1, (τ.1, va_up τ.2 6 (flA τ I.toNatClampNeg)))) else (if ix I 240 then some (1, (I + 1, (τ.1, va_up (va_up τ.2 6 (flA τ I.toNatClampNeg)) 6 (upd (flA τ I.toNatClampNeg) I.toNatClampNeg 3)))) else none)) else none)) else none) = _
    rw [if_neg hlt, gd hg]
    by_cases h3 : τ.2 6 I.toNatClampNeg = 3
    · rw [if_pos (hat.trans h3), gd hg, bx_uu, ← hs]
      unfold fla; rw [if_pos h3]
    · rw [if_neg (fun z => h3 (hat.symm.trans z)), gd hg]
      by_cases h0 : τ.2 6 I.toNatClampNeg = 0
      · rw [if_pos (hat.trans h0), ← hs]
        have : fla (τ.2 6 I.toNatClampNeg) = flA τ I.toNatClampNeg I.toNatClampNeg := by unfold fla; rw [if_neg h3, if_pos h0, hat]
        rw [this]
        have e : upd (flA τ I.toNatClampNeg) I.toNatClampNeg (flA τ I.toNatClampNeg I.toNatClampNeg) = flA τ I.toNatClampNeg := by
          funext y
          by_cases hy : y = I.toNatClampNeg
          · rw [hy, upd_s]
          · rw [upd_n hy]
        rw [e]
      · rw [if_neg (fun z => h0 (hat.symm.trans z)), gd hg, bx_uu, ← hs]
        unfold fla; rw [if_neg h3, if_neg h0]
  · unfold fMod_flip_B2
    show (if (240 : Int32) ≤ nI 240 then _ else _) = _
    rw [if_pos (by decide)]
section FL
variable {n nk nf : Nat} {run : Prop} {σ τ : St} {ad fr ro : Nat → Nat} {bs re ns rl so cc zs zc o : Nat}
/-- when the row is done, what is here points to what is here -/
theorem clean_all (h : RH n nk nf True σ τ ad fr ro bs re ns rl so cc so cc) (hd : so = rl) {p j : Nat} (hp : p < 240) (ha : τ.2 6 p = 1 ∨ τ.2 6 p = 2) (hj : j < nrN τ p) : Clean τ ad p j (σ.2 10 (ad p + 1 + j)) := by
  obtain ⟨-, hG, hO, hD, hF, hR, hS, hC⟩ := h
  obtain ⟨c0, c1, c2⟩ := hC trivial
  rcases ha with ha | ha
  · exact c1 p hp ha j hj
  · obtain ⟨i, hi, e⟩ := hR.2.2 p hp ha
    subst e
    exact c2 i hi j hj (Or.inl (by omega))
theorem RH_flip (h : RH n nk nf True σ τ ad fr ro bs re ns rl so cc so cc) (hd : so = rl) {σ1 : Nat → Int32} (e9 : σ1 9 = σ.1 9) (e12 : σ1 12 = nI (n - bs)) (e13 : σ1 13 = nI (n - bs)) (e14 : σ1 14 = nI (n - bs)) (e15 : σ1 15 = nI (n - bs)) (e17 : σ1 17 = nI (n - bs + n)) {τ1 : Nat → Int32} (f0 : τ1 0 = τ.1 0) (f5 : τ1 5 = 0) (f6 : τ1 6 = 0) (f7 : τ1 7 = 0) (f8 : τ1 8 = 0) :
    RH n nk nf True (σ1, σ.2) (τ1, va_up τ.2 6 (flA τ 240)) ad fr ro (n - bs) (n - bs) (n - bs + n) 0 0 0 0 0 := by
  have hcl := fun p j hp ha hj => clean_all h hd (p := p) (j := j) hp ha hj
  obtain ⟨⟨hn1, hn2, hf6, hK⟩, hG, hO, hD, hF, hR, hS, hC⟩ := h
  obtain ⟨g1, g2, g3, g4, g5, g6, g7, g8, g9, g10, g11⟩ := hG
  have hage : ∀ p, p < 240 → (va_up τ.2 6 (flA τ 240)) 6 p = fla (τ.2 6 p) := fun p hp => by
    show flA τ 240 p = _; unfold flA; rw [if_pos hp]
  have hlive : ∀ p, p < 240 → (va_up τ.2 6 (flA τ 240)) 6 p ≠ 0 → τ.2 6 p = 1 ∨ τ.2 6 p = 2 := by
    intro p hp hne
    rw [hage p hp] at hne
    unfold fla at hne
    by_cases h3 : τ.2 6 p = 3
    · rw [if_pos h3] at hne; exact absurd rfl hne
    · rw [if_neg h3] at hne
      by_cases h0 : τ.2 6 p = 0
      · rw [if_pos h0] at hne; exact absurd h0 hne
      · rcases (hO p hp h0).1 with h | h | h
        · exact Or.inl h
        · exact Or.inr h
        · exact absurd h h3
  have hthree : ∀ p, p < 240 → (τ.2 6 p = 1 ∨ τ.2 6 p = 2) → (va_up τ.2 6 (flA τ 240)) 6 p = 3 := by
    intro p hp ha
    rw [hage p hp]; unfold fla
    rcases ha with h | h <;> rw [h] <;> decide
  refine ⟨⟨hn1, hn2, hf6, hK⟩, ?_, ?_, ?_, ?_, ?_, ?_, ?_⟩
  · refine ⟨by omega, e12, e13, e17, by rw [← g5]; exact e9, by rw [← g6]; exact f0, Nat.le_refl _, by omega, Nat.le_refl _, ?_, f6⟩
    rw [show n - (n - bs + n - (n - bs)) = 0 by omega]; exact f5
  · intro p hp hpa
    have ha := hlive p hp hpa
    have h3 := hthree p hp ha
    have hne : τ.2 6 p ≠ 0 := by rcases ha with h | h <;> rw [h] <;> decide
    obtain ⟨pa, pT, pH, p1, p2, p3, pI, pR⟩ := hO p hp hne
    have hps := sz_le hK pT
    refine ⟨Or.inr (Or.inr h3), pT, pH, fun z => absurd (h3.symm.trans z) (by decide), fun z => absurd (h3.symm.trans z) (by decide), fun _ => ?_, pI, ?_⟩
    · show n - (n - bs) ≤ ad p ∧ ad p + szN τ p ≤ n - (n - bs) + n
      rcases ha with h | h
      · have := p1 h; omega
      · have := p2 h; omega
    · intro j hj
      have hj' : j < nrN τ p := hj
      rcases hcl p j hp ha hj' with hc | ⟨t, t1, t2, t3, t4⟩
      · exact Or.inl hc
      · rcases pR j hj' with hc | ⟨u, u1, u2, u3, u4, -⟩
        · rw [t2] at hc; exact absurd hc.1 (nI_m1 (by omega))
        · have : t = u := nI_inj (by omega) (by omega) (t2.symm.trans u2)
          subst this
          refine Or.inr ⟨t, t1, t2, ?_, u4, Or.inl t4⟩
          show (va_up τ.2 6 (flA τ 240)) 6 t ≠ 0
          rw [hthree t t1 t3]; decide
  · intro p q hp hq hpa hqa hpq
    have h1 := hlive p hp hpa
    have h2 := hlive q hq hqa
    exact hD p q hp hq (by rcases h1 with h | h <;> rw [h] <;> decide) (by rcases h2 with h | h <;> rw [h] <;> decide) hpq
  · intro p hp hpa
    have hpa' : (va_up τ.2 6 (flA τ 240)) 6 p = 2 := hpa
    have h1 := hlive p hp (by rw [hpa']; decide)
    rw [hthree p hp h1] at hpa'
    exact absurd hpa' (by decide)
  · refine ⟨fun i hi => absurd hi (by omega), rfl, fun p hp hpa => ?_⟩
    have hpa' : (va_up τ.2 6 (flA τ 240)) 6 p = 2 := hpa
    have h1 := hlive p hp (by rw [hpa']; decide)
    rw [hthree p hp h1] at hpa'
    exact absurd hpa' (by decide)
  · exact ⟨Nat.le_refl _, Or.inl rfl, e14, f7, f8, fun _ => e15, fun z => absurd rfl z⟩
  · intro _
    refine ⟨by omega, fun p hp hpa => ?_, fun i hi => absurd hi (by omega)⟩
    have hpa' : (va_up τ.2 6 (flA τ 240)) 6 p = 1 := hpa
    have h1 := hlive p hp (by rw [hpa']; decide)
    rw [hthree p hp h1] at hpa'
    exact absurd hpa' (by decide)
end FL
