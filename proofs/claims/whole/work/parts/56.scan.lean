/-! scanning a cell -/
def EvX2 (σ σ' : St) : Prop := (∀ j, j < 13 ∨ j = 17 ∨ j = 18 → σ'.1 j = σ.1 j) ∧ ∀ k, k ≠ 10 → σ'.2 k = σ.2 k
def EvM2 (τ τ' : St) : Prop := (∀ j, j ≠ 5 → j ≠ 6 → j ≠ 7 → j ≠ 8 → j ≠ 12 → j ≠ 16 → τ'.1 j = τ.1 j) ∧ (∀ k, k ≠ 6 → k ≠ 11 → τ'.2 k = τ.2 k) ∧ (∀ p, τ.2 6 p ≠ 3 → τ'.2 6 p = τ.2 6 p) ∧ ∀ p, τ.2 6 p ≠ 0 → τ'.2 6 p ≠ 0
theorem EvX2.rf (σ : St) : EvX2 σ σ := ⟨fun _ _ => rfl, fun _ _ => rfl⟩
theorem EvM2.rf (τ : St) : EvM2 τ τ := ⟨fun _ _ _ _ _ _ _ => rfl, fun _ _ _ => rfl, fun _ _ => rfl, fun _ h => h⟩
theorem EvX2.tr {a b c : St} (h : EvX2 a b) (g : EvX2 b c) : EvX2 a c := ⟨fun j hj => (g.1 j hj).trans (h.1 j hj), fun k hk => (g.2 k hk).trans (h.2 k hk)⟩
theorem EvM2.tr {a b c : St} (h : EvM2 a b) (g : EvM2 b c) : EvM2 a c := ⟨fun j h1 h2 h3 h4 h5 h6 => (g.1 j h1 h2 h3 h4 h5 h6).trans (h.1 j h1 h2 h3 h4 h5 h6), fun k h1 h2 => (g.2.1 k h1 h2).trans (h.2.1 k h1 h2), fun p hp => (g.2.2.1 p (by rw [h.2.2.1 p hp]; exact hp)).trans (h.2.2.1 p hp), fun p hp => g.2.2.2 p (h.2.2.2 p hp)⟩
theorem EvX.to2 {a b : St} (h : EvX a b) : EvX2 a b := ⟨fun j hj => h.1 j (by omega) (by omega) (by omega), h.2⟩
theorem EvM.to2 {a b : St} (h : EvM a b) : EvM2 a b := ⟨fun j h1 h2 _ _ h5 h6 => h.1 j h1 h2 h5 h6, h.2.1, h.2.2⟩
/-- the class's state once the cell counts as scanned -/
def scA (σ : St) : St := (upd (upd σ.1 14 (σ.1 14 + 1)) 19 (σ.1 19 + 1), σ.2)
def scH (σ : St) (r s : Nat) : St := (upd (upd (scA σ).1 16 ((σ.1 14 + 1) + nI r)) 15 (σ.1 14 + nI s), σ.2)
/-- the reference's -/
def msA (τ : St) (last : Bool) : St := if last = true then (upd (upd (upd (upd τ.1 16 (τ.1 16 + 1)) 8 (τ.1 8 + 1)) 7 (τ.1 7 + 1)) 8 0, τ.2) else (upd (upd τ.1 16 (τ.1 16 + 1)) 8 (τ.1 8 + 1), τ.2)
section SC
variable {n nk nf : Nat} {run : Prop} {σ τ : St} {ad fr ro : Nat → Nat} {bs re ns rl so cc zs zc o j : Nat}
theorem m_scan1 {so cc o : Nat} (ho : o < 240) (hK : KdT τ nk) (hO : ObT τ nk nf o) (h7 : τ.1 7 = nI so) (h8 : τ.1 8 = nI cc) (hrow : τ.2 11 so = nI o) (hso : so < 120) (hcc : cc < 9) :
    fMod_scanCell τ = fMod_scanCell_J62 (msA τ (decide (cc + 1 = szN τ o))) (nI o) (nI cc) := by
  have hg : ix (τ.1 7) 120 := by rw [h7]; exact ix_n hso (by omega)
  have e7 : (τ.1 7).toNatClampNeg = so := by rw [h7]; exact nI_tc (by omega)
  have hs := sz_le hK hO
  unfold fMod_scanCell
  rw [gd hg, e7, hrow, m_size0 (τ := (upd (upd τ.1 16 (τ.1 16 + 1)) 8 (τ.1 8 + 1), τ.2)) (nk := nk) (nf := nf) (ix_n ho (by omega)) (nI_tc (by omega)) hK hO, Option.bind_some]
  show (if τ.1 8 + 1 = nI (szN τ o) then _ else _) = _
  have hc : (τ.1 8 + 1 = nI (szN τ o)) = (cc + 1 = szN τ o) := by rw [h8, nI_1]; exact nI_eq' (by omega) (by omega)
  by_cases h : cc + 1 = szN τ o
  · rw [if_pos (hc ▸ h : τ.1 8 + 1 = nI (szN τ o)), h8, decide_eq_true h]; unfold msA; rw [if_pos rfl, h8]; rfl
  · rw [if_neg (fun z => h (hc ▸ z)), h8, decide_eq_false h]; unfold msA; rw [if_neg (by decide), h8]
theorem m_J62a {x : Int32} {cc : Nat} (h : cc < 1) : fMod_scanCell_J62 τ x (nI cc) = some τ := by
  have : cc = 0 := by omega
  subst this
  unfold fMod_scanCell_J62
  rw [if_pos (by decide)]
theorem m_J62b {cc o : Nat} (ho : o < 240) (hK : KdT τ nk) (hO : ObT τ nk nf o) (h1 : 1 ≤ cc) (h9 : cc < 9) : fMod_scanCell_J62 τ (nI o) (nI cc) = if nrN τ o < cc then some τ else (fMod_read τ (nI (4 * o + (cc - 1)))).bind (fun p => some p.2) := by
  have hnr := ob_nr hK hO
  unfold fMod_scanCell_J62
  rw [if_neg (show ¬ nI cc < 1 from fun z => by rw [show (1 : Int32) = nI 1 from rfl, nI_lt' (by omega) (by omega)] at z; omega), m_many ho hK hO, Option.bind_some]
  show (if nI (nrN τ o) < nI cc then some τ else (fMod_read τ (((4 : Int32) * nI o + nI cc) - 1)).bind (fun p => some p.2)) = _
  have e : ((4 : Int32) * nI o + nI cc) - 1 = nI (4 * o + (cc - 1)) := by
    rw [show (4 : Int32) = nI 4 from rfl, pk_mul, nI_add, show 4 * o + cc = 4 * o + (cc - 1) + 1 by omega]; exact nI_pred _
  rw [e]
  by_cases h : nrN τ o < cc
  · rw [if_pos (show nI (nrN τ o) < nI cc by rw [nI_lt' (by omega) (by omega)]; exact h), if_pos h]
  · rw [if_neg (show ¬ nI (nrN τ o) < nI cc by rw [nI_lt' (by omega) (by omega)]; exact h), if_neg h]
/-- the numbers of the row's cell that comes next -/
theorem sc_nums (h : RH n nk nf run σ τ ad fr ro bs re ns rl so cc zs zc) (hlt : so < rl) : ro so < 240 ∧ τ.2 6 (ro so) = 2 ∧ τ.2 11 so = nI (ro so) ∧ ad (ro so) = bs + sumTo (rsz τ ro) so ∧ cc < szN τ (ro so) ∧ sumTo (rsz τ ro) (so + 1) = sumTo (rsz τ ro) so + szN τ (ro so) ∧ bs + sumTo (rsz τ ro) (so + 1) ≤ re ∧ re ≤ 2 * n ∧ so < 120 ∧ ObT τ nk nf (ro so) := by
  obtain ⟨⟨hn1, hn2, hf6, hK⟩, hG, hO, hD, hF, hR, hS, hC⟩ := h
  obtain ⟨g1, g2, g3, g4, g5, g6, g7, g8, g9, g10, g11⟩ := hG
  obtain ⟨r1, r2, r3, r4⟩ := hR.1 so hlt
  have oT := (hO (ro so) r1 (by rw [r2]; decide)).2.1
  have hs := sz_le hK oT
  have hmono := sumTo_mono (f := rsz τ ro) (a := so + 1) rl (by omega)
  have hge := sumTo_ge (f := rsz τ ro) rl (fun i hi => by
    have h1 := hR.1 i hi
    exact (sz_le hK (hO (ro i) h1.1 (by rw [h1.2.1]; decide)).2.1).1)
  have hre := hR.2.1
  have e1 : sumTo (rsz τ ro) (so + 1) = sumTo (rsz τ ro) so + szN τ (ro so) := rfl
  refine ⟨r1, r2, r3, r4, ?_, e1, by omega, by omega, by omega, oT⟩
  rcases hS.2.1 with h | h
  · omega
  · exact h.2
/-- the numbers of HS when one cell more is scanned -/
def nxS (τ : St) (ro : Nat → Nat) (so cc : Nat) : Nat := if cc + 1 = szN τ (ro so) then so + 1 else so
def nxC (τ : St) (ro : Nat → Nat) (so cc : Nat) : Nat := if cc + 1 = szN τ (ro so) then 0 else cc + 1
theorem HS_adv (h : RH n nk nf run σ τ ad fr ro bs re ns rl so cc zs zc) (hlt : so < rl) {σ' : St} (e14 : σ'.1 14 = σ.1 14 + 1) (hh : cc = 0 → σ'.1 15 = σ.1 14 + nI (szN τ (ro so)) ∧ σ'.1 16 = (σ.1 14 + 1) + nI (nrN τ (ro so))) (hn : cc ≠ 0 → σ'.1 15 = σ.1 15 ∧ σ'.1 16 = σ.1 16) :
    HS σ' (msA τ (decide (cc + 1 = szN τ (ro so)))) ro bs rl (nxS τ ro so cc) (nxC τ ro so cc) := by
  obtain ⟨r1, r2, r3, r4, r5, r6, r7, r8, r9, oT⟩ := sc_nums h hlt
  obtain ⟨⟨hn1, hn2, hf6, hK⟩, hG, hO, hD, hF, hR, hS, hC⟩ := h
  obtain ⟨s1, s2, s3, s4, s5, s6, s7⟩ := hS
  have hs := sz_le hK oT
  by_cases hl : cc + 1 = szN τ (ro so)
  · rw [decide_eq_true hl]
    unfold nxS nxC
    rw [if_pos hl, if_pos hl]
    refine ⟨by omega, Or.inl rfl, ?_, ?_, rfl, ?_, fun z => absurd rfl z⟩
    · show σ'.1 14 = nI (bs + sumTo (rsz τ ro) (so + 1) + 0)
      rw [e14, s3, nI_1]; congr 1; omega
    · show τ.1 7 + 1 = nI (so + 1)
      rw [s4, nI_1]
    · intro _
      show σ'.1 15 = nI (bs + sumTo (rsz τ ro) (so + 1))
      by_cases hc : cc = 0
      · rw [(hh hc).1, s3, nI_add]; congr 1; omega
      · rw [(hn hc).1]; exact (s7 hc).1
  · rw [decide_eq_false hl]
    unfold nxS nxC
    rw [if_neg hl, if_neg hl]
    refine ⟨by omega, Or.inr ⟨hlt, ?_⟩, ?_, s4, ?_, fun z => absurd z (by omega), fun _ => ?_⟩
    · show cc + 1 < szN τ (ro so); omega
    · show σ'.1 14 = nI (bs + sumTo (rsz τ ro) so + (cc + 1))
      rw [e14, s3, nI_1]; congr 1
    · show τ.1 8 + 1 = nI (cc + 1)
      rw [s5, nI_1]
    · show σ'.1 15 = nI (bs + sumTo (rsz τ ro) (so + 1)) ∧ σ'.1 16 = nI (bs + sumTo (rsz τ ro) so + 1 + nrN τ (ro so))
      by_cases hc : cc = 0
      · rw [(hh hc).1, (hh hc).2, s3, nI_add, nI_1, nI_add]
        subst hc
        exact ⟨by congr 1; omega, by congr 1⟩
      · rw [(hn hc).1, (hn hc).2]; exact s7 hc
/-- advancing the scan: all but the clean zone -/
theorem RH_adv (h : RH n nk nf run σ τ ad fr ro bs re ns rl so cc zs zc) (hlt : so < rl) {σ' : St} (e9 : σ'.1 9 = σ.1 9) (e12 : σ'.1 12 = σ.1 12) (e13 : σ'.1 13 = σ.1 13) (e17 : σ'.1 17 = σ.1 17) (ec : σ'.2 10 = σ.2 10) (e14 : σ'.1 14 = σ.1 14 + 1) (hh : cc = 0 → σ'.1 15 = σ.1 14 + nI (szN τ (ro so)) ∧ σ'.1 16 = (σ.1 14 + 1) + nI (nrN τ (ro so))) (hn : cc ≠ 0 → σ'.1 15 = σ.1 15 ∧ σ'.1 16 = σ.1 16) :
    RH n nk nf run σ' (msA τ (decide (cc + 1 = szN τ (ro so)))) ad fr ro bs re ns rl (nxS τ ro so cc) (nxC τ ro so cc) zs zc := by
  have hS' := HS_adv h hlt e14 hh hn
  obtain ⟨⟨hn1, hn2, hf6, hK⟩, hG, hO, hD, hF, hR, hS, hC⟩ := h
  have e2 : (msA τ (decide (cc + 1 = szN τ (ro so)))).2 = τ.2 := by unfold msA; split <;> rfl
  have ek : ∀ j, j = 0 ∨ j = 5 ∨ j = 6 → (msA τ (decide (cc + 1 = szN τ (ro so)))).1 j = τ.1 j := by
    intro j hj
    unfold msA
    split
    · rcases hj with rfl | rfl | rfl <;> rfl
    · rcases hj with rfl | rfl | rfl <;> rfl
  generalize msA τ (decide (cc + 1 = szN τ (ro so))) = τ' at hS' e2 ek ⊢
  have q : sameO τ τ' := by unfold sameO; rw [e2]; exact ⟨rfl, rfl, rfl, rfl, rfl, rfl⟩
  obtain ⟨q1, q2, q3, q4, q5, q6⟩ := same_sz q
  refine ⟨⟨hn1, hn2, hf6, q6 nk hK⟩, ?_, ?_, ?_, ?_, ?_, hS', ?_⟩
  · unfold HG at hG ⊢; rw [e12, e13, e17, e9, ek 0 (by omega), ek 5 (by omega), ek 6 (by omega)]; exact hG
  · intro p hp hpa
    rw [e2] at hpa
    have := hO p hp hpa
    unfold HO1 RefOK at this ⊢
    rw [e2, q1, q2, q3, q4, ec]
    exact ⟨this.1, q5 nk nf p this.2.1, this.2.2⟩
  · unfold HD at hD ⊢; rw [e2, q3]; exact hD
  · unfold HF at hF ⊢; rw [e2, q3, ec]; exact hF
  · unfold HR at hR ⊢; unfold rsz at hR ⊢; rw [e2, q3]; exact hR
  · intro hr
    have := hC hr
    unfold HC Clean at this ⊢
    rw [e2, q1, ec]; exact this
end SC
