/-! many cells scanned -/
section SC3
variable {n nk nf : Nat} {run : Prop} {σ τ : St} {ad fr ro : Nat → Nat} {bs re ns rl so cc zs zc o j : Nat}
theorem x_scanEnd {L : Nat} {most x : Int32} (h : most ≤ x ∨ σ.1 13 ≤ σ.1 14 ∨ ¬ σ.1 20 = 0) : fRoom_scanCells_B2 L most (x, σ) = some (0, (x, σ)) := by
  unfold fRoom_scanCells_B2
  show (if most ≤ x then _ else if σ.1 13 ≤ σ.1 14 then _ else if σ.1 20 = 0 then _ else _) = _
  by_cases h1 : most ≤ x
  · rw [if_pos h1]
  · rw [if_neg h1]
    by_cases h2 : σ.1 13 ≤ σ.1 14
    · rw [if_pos h2]
    · rw [if_neg h2]
      rcases h with h | h | h
      · exact absurd h h1
      · exact absurd h h2
      · rw [if_neg h]
theorem m_scanEnd {x1 x2 x3 x : Int32} (h : τ.1 1 * x3 ≤ x ∨ ¬ τ.1 12 = 0 ∨ τ.1 7 = τ.1 6) : fMod_make_B29 x1 x2 x3 (x, τ) = some (0, (x, τ)) := by
  unfold fMod_make_B29
  show (if τ.1 1 * x3 ≤ x then _ else if τ.1 12 = 0 then (fMod_rowDone τ).bind _ else _) = _
  by_cases h1 : τ.1 1 * x3 ≤ x
  · rw [if_pos h1]
  · rw [if_neg h1]
    by_cases h2 : τ.1 12 = 0
    · rw [if_pos h2]
      rcases h with h | h | h
      · exact absurd h h1
      · exact absurd h2 h
      · unfold fMod_rowDone
        rw [if_pos h, Option.bind_some]
        show (if (1 : Int32) = 0 then _ else _) = _
        rw [if_neg (by decide)]
    · rw [if_neg h2]
theorem m_scanGo {x1 x2 x3 x : Int32} {τ' : St} (h1 : ¬ τ.1 1 * x3 ≤ x) (h2 : τ.1 12 = 0) (h3 : ¬ τ.1 7 = τ.1 6) (h : fMod_scanCell τ = some τ') : fMod_make_B29 x1 x2 x3 (x, τ) = some (1, (x + 1, τ')) := by
  unfold fMod_make_B29
  show (if τ.1 1 * x3 ≤ x then _ else if τ.1 12 = 0 then (fMod_rowDone τ).bind _ else _) = _
  rw [if_neg h1, if_pos h2]
  unfold fMod_rowDone
  rw [if_neg h3, Option.bind_some]
  show (if (0 : Int32) = 0 then (fMod_scanCell τ).bind _ else _) = _
  rw [if_pos rfl, h]
  rfl
theorem scan_loop {mm : Nat} (hmm : mm < 1000) {x1 x2 x3 : Int32} {bs ns : Nat} : ∀ (d i : Nat) (σ τ : St) (ad fr ro : Nat → Nat) (re rl so cc : Nat), i + d = mm → τ.1 1 * x3 = nI mm → RH n nk nf (σ.1 20 = 0) σ τ ad fr ro bs re ns rl so cc so cc → σ.1 19 = τ.1 16 → ((σ.1 20 = 1 ∧ τ.1 12 = 3) ∨ (σ.1 20 = 0 ∧ τ.1 12 = 0)) → ∀ k1 k2, d < k1 → d < k2 →
    ∃ x y σ' τ' ad' fr' ro' re' rl' so' cc', rbLoop (fRoom_scanCells_B2 (2 * n) (nI mm)) k1 (nI i, σ) = some (0, (x, σ')) ∧ rbLoop (fMod_make_B29 x1 x2 x3) k2 (nI i, τ) = some (0, (y, τ')) ∧ EvX2 σ σ' ∧ EvM2 τ τ' ∧ (∀ p, τ.2 6 p ≠ 3 → ad' p = ad p) ∧ RH n nk nf (σ'.1 20 = 0) σ' τ' ad' fr' ro' bs re' ns rl' so' cc' so' cc' ∧ σ'.1 19 = τ'.1 16 ∧ ((σ'.1 20 = 1 ∧ τ'.1 12 = 3) ∨ (σ'.1 20 = 0 ∧ τ'.1 12 = 0)) := by
  intro d
  induction d with
  | zero =>
    intro i σ τ ad fr ro re rl so cc hi hp h hw hc k1 k2 hk1 hk2
    obtain ⟨k1, rfl⟩ : ∃ k, k1 = k + 1 := ⟨k1 - 1, by omega⟩
    obtain ⟨k2, rfl⟩ : ∃ k, k2 = k + 1 := ⟨k2 - 1, by omega⟩
    have hle : nI mm ≤ nI i := by rw [nI_le' (by omega) (by omega)]; omega
    exact ⟨nI i, nI i, σ, τ, ad, fr, ro, re, rl, so, cc, rbLoop_end (x_scanEnd (Or.inl hle)) (by decide), rbLoop_end (m_scanEnd (Or.inl (by rw [hp]; exact hle))) (by decide), EvX2.rf σ, EvM2.rf τ, fun _ _ => rfl, h, hw, hc⟩
  | succ d ih =>
    intro i σ τ ad fr ro re rl so cc hi hp h hw hc k1 k2 hk1 hk2
    obtain ⟨k1, rfl⟩ : ∃ k, k1 = k + 1 := ⟨k1 - 1, by omega⟩
    obtain ⟨k2, rfl⟩ : ∃ k, k2 = k + 1 := ⟨k2 - 1, by omega⟩
    have hnle : ¬ nI mm ≤ nI i := by rw [nI_le' (by omega) (by omega)]; omega
    have hstop : (σ.1 13 ≤ σ.1 14 ∨ ¬ σ.1 20 = 0) → (¬ τ.1 12 = 0 ∨ τ.1 7 = τ.1 6) → ∃ x y σ' τ' ad' fr' ro' re' rl' so' cc', rbLoop (fRoom_scanCells_B2 (2 * n) (nI mm)) (k1 + 1) (nI i, σ) = some (0, (x, σ')) ∧ rbLoop (fMod_make_B29 x1 x2 x3) (k2 + 1) (nI i, τ) = some (0, (y, τ')) ∧ EvX2 σ σ' ∧ EvM2 τ τ' ∧ (∀ p, τ.2 6 p ≠ 3 → ad' p = ad p) ∧ RH n nk nf (σ'.1 20 = 0) σ' τ' ad' fr' ro' bs re' ns rl' so' cc' so' cc' ∧ σ'.1 19 = τ'.1 16 ∧ ((σ'.1 20 = 1 ∧ τ'.1 12 = 3) ∨ (σ'.1 20 = 0 ∧ τ'.1 12 = 0)) := fun h1 h2 =>
      ⟨nI i, nI i, σ, τ, ad, fr, ro, re, rl, so, cc, rbLoop_end (x_scanEnd (Or.inr h1)) (by decide), rbLoop_end (m_scanEnd (Or.inr h2)) (by decide), EvX2.rf σ, EvM2.rf τ, fun _ _ => rfl, h, hw, hc⟩
    rcases hc with ⟨c1, c2⟩ | ⟨c1, c2⟩
    · exact hstop (Or.inr (by rw [c1]; decide)) (Or.inl (by rw [c2]; decide))
    · have hT : RH n nk nf True σ τ ad fr ro bs re ns rl so cc so cc := by
        obtain ⟨b1, b2, b3, b4, b5, b6, b7, b8⟩ := h
        exact ⟨b1, b2, b3, b4, b5, b6, b7, fun _ => b8 c1⟩
      by_cases hlt : so < rl
      · obtain ⟨σ1, τ1, ad1, fr1, ro1, re1, rl1, so1, cc1, hX, hM, eX, eM, hsm, hR1, hw1, hc1⟩ := scan_sim hT c1 c2 hw hlt hnle
        have hne : ¬ τ.1 7 = τ.1 6 := by
          obtain ⟨-, hG, -, -, -, hR, hS, -⟩ := hT
          have hge := (sc_nums h hlt)
          have : rl < 1000 := by
            have := sumTo_ge (f := rsz τ ro) rl (fun i hi => by
              have h1 := hR.1 i hi
              obtain ⟨⟨-, -, -, hK⟩, -, hO, -⟩ := h
              exact (sz_le hK (hO (ro i) h1.1 (by rw [h1.2.1]; decide)).2.1).1)
            have h2 := hR.2.1
            have := hge.2.2.2.2.2.2.2.1
            obtain ⟨⟨a1, a2, -⟩, -⟩ := h
            omega
          rw [hS.2.2.2.1, hG.2.2.2.2.2.2.2.2.2.2, nI_eq' (by omega) (by omega)]; omega
        rw [rbLoop_go hX, rbLoop_go (m_scanGo (by rw [hp]; exact hnle) c2 hne hM), nI_1]
        obtain ⟨x, y, σ', τ', ad', fr', ro', re', rl', so', cc', a1, a2, a3, a4, a5, a6, a7, a8⟩ := ih (i + 1) σ1 τ1 ad1 fr1 ro1 re1 rl1 so1 cc1 (by omega) (by rw [eM.1 1 (by decide) (by decide) (by decide) (by decide) (by decide) (by decide)]; exact hp) hR1 hw1 hc1 k1 k2 (by omega) (by omega)
        exact ⟨x, y, σ', τ', ad', fr', ro', re', rl', so', cc', a1, a2, eX.tr a3, eM.tr a4, fun p hp2 => (a5 p (by rw [eM.2.2.1 p hp2]; exact hp2)).trans (hsm p hp2), a6, a7, a8⟩
      · obtain ⟨-, hG, -, -, -, hR, hS, -⟩ := hT
        obtain ⟨s1, s2, s3, s4, s5, s6, s7⟩ := hS
        obtain ⟨g1, g2, g3, g4, g5, g6, g7, g8, g9, g10, g11⟩ := hG
        have hso : so = rl := by omega
        have hcc : cc = 0 := by rcases s2 with h | h <;> omega
        refine hstop (Or.inl ?_) (Or.inr (by rw [s4, g11, hso]))
        rw [g3, s3, hso, hcc, Nat.add_zero, ← hR.2.1]
        exact Int32.le_refl _
end SC3
