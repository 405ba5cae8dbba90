/-! writing a cell of an object that is here -/
section WR
variable {n nk nf : Nat} {run : Prop} {σ τ : St} {ad fr ro : Nat → Nat} {bs re ns rl so cc zs zc o : Nat}
/-- the objects of the arrays of another state of the reference -/
def sameO (τ τ' : St) : Prop := τ'.2 0 = τ.2 0 ∧ τ'.2 1 = τ.2 1 ∧ τ'.2 6 = τ.2 6 ∧ τ'.2 7 = τ.2 7 ∧ τ'.2 8 = τ.2 8 ∧ τ'.2 11 = τ.2 11
theorem same_sz {τ τ' : St} (h : sameO τ τ') : nrN τ' = nrN τ ∧ niN τ' = niN τ ∧ szN τ' = szN τ ∧ idN τ' = idN τ ∧ (∀ nk nf o, ObT τ nk nf o → ObT τ' nk nf o) ∧ (∀ nk, KdT τ nk → KdT τ' nk) := by
  obtain ⟨h0, h1, h6, h7, h8, h11⟩ := h
  have a1 : nrN τ' = nrN τ := by funext o; unfold nrN krN; rw [h7, h0]
  have a2 : niN τ' = niN τ := by funext o; unfold niN kiN; rw [h7, h1]
  refine ⟨a1, a2, by funext o; unfold szN; rw [a1, a2], by funext o; unfold idN; rw [h7, h8], fun nk nf o h => by unfold ObT at h ⊢; rw [h7, h8]; exact h, fun nk h => by unfold KdT at h ⊢; rw [h0, h1]; exact h⟩
/-- in an object that is here, cell x (not its head) becomes v; refs and ints of the reference may change at its own place -/
theorem RH_write (h : RH n nk nf run σ τ ad fr ro bs re ns rl so cc zs zc) (ho : o < 240) (ha : τ.2 6 o = 1 ∨ τ.2 6 o = 2) {x : Nat} (hx : 1 ≤ x) (hxs : x < szN τ o) {v : Int32} {σ' τ' : St}
    (e9 : σ'.1 9 = σ.1 9) (e12 : σ'.1 12 = σ.1 12) (e13 : σ'.1 13 = σ.1 13) (e14 : σ'.1 14 = σ.1 14) (e15 : σ'.1 15 = σ.1 15) (e16 : σ'.1 16 = σ.1 16) (e17 : σ'.1 17 = σ.1 17) (ec : σ'.2 10 = upd (σ.2 10) (ad o + x) v)
    (f0 : τ'.1 0 = τ.1 0) (f5 : τ'.1 5 = τ.1 5) (f6 : τ'.1 6 = τ.1 6) (f7 : τ'.1 7 = τ.1 7) (f8 : τ'.1 8 = τ.1 8) (hsm : sameO τ τ')
    (hr : ∀ p j, p < 240 → j < 4 → (p ≠ o ∨ j + 1 ≠ x) → τ'.2 9 (4 * p + j) = τ.2 9 (4 * p + j)) (hi : ∀ p j, p < 240 → j < 4 → (p ≠ o ∨ 1 + nrN τ p + j ≠ x) → τ'.2 10 (4 * p + j) = τ.2 10 (4 * p + j))
    (hvr : ∀ j, j < nrN τ o → j + 1 = x → RefOK τ' ad fr o j v ∧ (run → Clean τ' ad o j v)) (hvi : ∀ j, j < niN τ o → 1 + nrN τ o + j = x → τ'.2 10 (4 * o + j) = v) :
    RH n nk nf run σ' τ' ad fr ro bs re ns rl so cc zs zc := by
  obtain ⟨⟨hn1, hn2, hf6, hK⟩, hG, hO, hD, hF, hR, hS, hC⟩ := h
  obtain ⟨q1, q2, q3, q4, q5, q6⟩ := same_sz hsm
  obtain ⟨s0, s1, s6, s7, s8, s11⟩ := hsm
  have hlive : τ.2 6 o ≠ 0 := by rcases ha with h | h <;> rw [h] <;> decide
  have hoO := hO o ho hlive
  -- the cell lies in o alone
  have hother : ∀ p, p < 240 → τ.2 6 p ≠ 0 → p ≠ o → ∀ y, ad p ≤ y → y < ad p + szN τ p → upd (σ.2 10) (ad o + x) v y = σ.2 10 y := by
    intro p hp hpa hpo y h1 h2
    have := hD p o hp ho hpa hlive hpo
    exact upd_n (by omega)
  have hown : ∀ y, y ≠ x → upd (σ.2 10) (ad o + x) v (ad o + y) = σ.2 10 (ad o + y) := fun y hy => upd_n (by omega)
  have hrf : ∀ p j w, p < 240 → j < 4 → (p ≠ o ∨ j + 1 ≠ x) → RefOK τ ad fr p j w → RefOK τ' ad fr p j w := by
    intro p j w hp hj hne hw
    unfold RefOK at hw ⊢
    rw [hr p j hp hj hne, s6, s7]; exact hw
  have hcl : ∀ p j w, p < 240 → j < 4 → (p ≠ o ∨ j + 1 ≠ x) → Clean τ ad p j w → Clean τ' ad p j w := by
    intro p j w hp hj hne hw
    unfold Clean at hw ⊢
    rw [hr p j hp hj hne, s6]; exact hw
  have hrs : rsz τ' ro = rsz τ ro := by unfold rsz; rw [q3]
  refine ⟨⟨hn1, hn2, hf6, q6 nk hK⟩, ?_, ?_, ?_, ?_, ?_, ?_, ?_⟩
  · unfold HG at hG ⊢
    rw [e12, e13, e17, e9, f0, f5, f6]; exact hG
  · intro p hp hpa
    rw [s6] at hpa
    obtain ⟨pa, pT, pH, p1, p2, p3, pI, pR⟩ := hO p hp hpa
    have hps := sz_le hK pT
    have hpn := ob_nr hK pT
    have hsz : szN τ p = 1 + nrN τ p + niN τ p := rfl
    unfold HO1
    rw [s6, q1, q2, q3, q4, ec]
    refine ⟨pa, q5 nk nf p pT, ?_, p1, p2, p3, ?_, ?_⟩
    · by_cases hpo : p = o
      · subst hpo; have := hown 0 (by omega); rw [Nat.add_zero] at this; rw [this]; exact pH
      · rw [hother p hp hpa hpo _ (Nat.le_refl _) (by omega)]; exact pH
    · intro j hj
      by_cases hpo : p = o
      · subst hpo
        by_cases hjx : 1 + nrN τ p + j = x
        · rw [show ad p + 1 + nrN τ p + j = ad p + x by omega, upd_s]; exact (hvi j hj hjx).symm
        · rw [show ad p + 1 + nrN τ p + j = ad p + (1 + nrN τ p + j) by omega, hown _ hjx, hi p j hp (by omega) (Or.inr hjx), show ad p + (1 + nrN τ p + j) = ad p + 1 + nrN τ p + j by omega]; exact pI j hj
      · rw [hother p hp hpa hpo _ (by omega) (by omega), hi p j hp (by omega) (Or.inl hpo)]; exact pI j hj
    · intro j hj
      by_cases hpo : p = o
      · subst hpo
        by_cases hjx : j + 1 = x
        · rw [show ad p + 1 + j = ad p + x by omega, upd_s]; exact (hvr j hj hjx).1
        · rw [show ad p + 1 + j = ad p + (1 + j) by omega, hown _ (by omega), show ad p + (1 + j) = ad p + 1 + j by omega]; exact hrf p j _ hp (by omega) (Or.inr hjx) (pR j hj)
      · rw [hother p hp hpa hpo _ (by omega) (by omega)]; exact hrf p j _ hp (by omega) (Or.inl hpo) (pR j hj)
  · intro p q hp hq hpa hqa hpq
    rw [s6] at hpa hqa
    rw [q3]; exact hD p q hp hq hpa hqa hpq
  · intro p hp hpa
    rw [s6] at hpa
    obtain ⟨f1, f2, f3, f4⟩ := hF p hp hpa
    refine ⟨f1, f2, ?_, ?_⟩
    · rw [ec, upd_n ?_]
      · exact f3
      · obtain ⟨g1, -, -, -, -, -, g7, g8, g9, -⟩ := hG
        have hs := sz_le hK hoO.2.1
        rcases ha with h | h
        · have := hoO.2.2.2.1 h; omega
        · have := hoO.2.2.2.2.1 h; omega
    · intro q hq hqa
      rw [s6] at hqa
      rw [q3]; exact f4 q hq hqa
  · unfold HR at hR ⊢
    rw [s6, s11, hrs]; exact hR
  · unfold HS at hS ⊢
    rw [hrs, q1, q3, e14, e15, e16, f7, f8]; exact hS
  · intro hrun
    obtain ⟨c0, c1, c2⟩ := hC hrun
    refine ⟨c0, ?_, ?_⟩
    · intro p hp hpa j hj
      rw [s6] at hpa
      rw [q1] at hj
      have hpa' : τ.2 6 p ≠ 0 := by rw [hpa]; decide
      have hpn := ob_nr hK (hO p hp hpa').2.1
      rw [ec]
      by_cases hpo : p = o
      · subst hpo
        by_cases hjx : j + 1 = x
        · rw [show ad p + 1 + j = ad p + x by omega, upd_s]; exact (hvr j hj hjx).2 hrun
        · rw [show ad p + 1 + j = ad p + (1 + j) by omega, hown _ (by omega), show ad p + (1 + j) = ad p + 1 + j by omega]; exact hcl p j _ hp (by omega) (Or.inr hjx) (c1 p hp hpa j hj)
      · have hsz : szN τ p = 1 + nrN τ p + niN τ p := rfl
        rw [hother p hp hpa' hpo _ (by omega) (by omega)]; exact hcl p j _ hp (by omega) (Or.inl hpo) (c1 p hp hpa j hj)
    · intro i hi' j hj hd
      rw [q1] at hj
      have hii := hR.1 i hi'
      have hpa' : τ.2 6 (ro i) ≠ 0 := by rw [hii.2.1]; decide
      have hpn := ob_nr hK (hO (ro i) hii.1 hpa').2.1
      rw [ec]
      by_cases hpo : ro i = o
      · by_cases hjx : j + 1 = x
        · rw [hpo] at hj ⊢
          rw [show ad o + 1 + j = ad o + x by omega, upd_s]; exact (hvr j hj hjx).2 hrun
        · rw [hpo] at ⊢
          rw [show ad o + 1 + j = ad o + (1 + j) by omega, hown _ (by omega), show ad o + (1 + j) = ad o + 1 + j by omega, ← hpo]; exact hcl (ro i) j _ hii.1 (by omega) (Or.inr hjx) (c2 i hi' j hj hd)
      · have hsz : szN τ (ro i) = 1 + nrN τ (ro i) + niN τ (ro i) := rfl
        rw [hother (ro i) hii.1 hpa' hpo _ (by omega) (by omega)]; exact hcl (ro i) j _ hii.1 (by omega) (Or.inl hpo) (c2 i hi' j hj hd)
end WR
