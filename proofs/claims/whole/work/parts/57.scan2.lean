/-! one cell scanned, both sides; then many -/
section SC2
variable {n nk nf : Nat} {run : Prop} {σ τ : St} {ad fr ro : Nat → Nat} {bs re ns rl so cc zs zc o j : Nat}
theorem HC_ext {c : Nat → Int32} {so' cc' : Nat} (hC : HC τ c ad ro rl so cc) (hlt : so < rl) (hn : (so' = so + 1 ∧ cc' = 0 ∧ cc + 1 = szN τ (ro so)) ∨ (so' = so ∧ cc' = cc + 1 ∧ cc + 1 < szN τ (ro so))) (hcell : ∀ j, j + 1 = cc → j < nrN τ (ro so) → Clean τ ad (ro so) j (c (ad (ro so) + 1 + j))) : HC τ c ad ro rl so' cc' := by
  obtain ⟨c0, c1, c2⟩ := hC
  have hsz : szN τ (ro so) = 1 + nrN τ (ro so) + niN τ (ro so) := rfl
  refine ⟨by omega, c1, ?_⟩
  intro i hi j hj hd
  by_cases h : i < so ∨ (i = so ∧ j + 1 < cc)
  · exact c2 i hi j hj h
  · have his : i = so := by omega
    subst his
    have hjc : j + 1 = cc := by omega
    exact hcell j hjc hj
theorem x_scanBody {L : Nat} {most x : Int32} {at_ : Nat} (hm : ¬ most ≤ x) (h13 : σ.1 13 = nI re) (h14 : σ.1 14 = nI at_) (hlt : at_ < re) (hre : re < 1000) (hL : L < 1000) (haL : at_ < L) (hf : σ.1 20 = 0) :
    fRoom_scanCells_B2 L most (x, σ) = if σ.1 14 = σ.1 15 then ((fRoom_refsIn L (scA σ) (σ.2 10 at_)).bind fun p68 => (fRoom_sizeIn L (upd p68.2.1 16 ((σ.1 14 + 1) + p68.1), p68.2.2) (p68.2.2 10 at_)).bind fun p83 => some (1, (x + 1, (upd p83.2.1 15 (σ.1 14 + p83.1), p83.2.2)))) else (if σ.1 16 ≤ σ.1 14 then some (1, (x + 1, scA σ)) else (fRoom_bring L (scA σ) (σ.2 10 at_)).bind fun p => some (1, (x + 1, (p.2.1, va_up p.2.2 10 (upd (p.2.2 10) at_ p.1))))) := by
  have hi : ix (σ.1 14) L := by rw [h14]; exact ix_n haL (by omega)
  have hc : (σ.1 14).toNatClampNeg = at_ := by rw [h14]; exact nI_tc (by omega)
  have h1 : ¬ σ.1 13 ≤ σ.1 14 := by rw [h13, h14, nI_le' (by omega) (by omega)]; omega
  clear h14
  unfold fRoom_scanCells_B2 fRoom_scanCells_B2_J117
  show (if most ≤ x then _ else if σ.1 13 ≤ σ.1 14 then _ else if σ.1 20 = 0 then _ else _) = _
  rw [if_neg hm, if_neg h1, if_pos hf]
  subst hc
  by_cases e : σ.1 14 = σ.1 15
  · rw [if_pos e, if_pos e, gd hi]
    unfold scA
    congr 1
    funext p
    exact gd hi
  · rw [if_neg e, if_neg e]
    by_cases e2 : σ.1 16 ≤ σ.1 14
    · rw [if_pos e2, if_pos e2]; rfl
    · rw [if_neg e2, if_neg e2, gd hi]
      unfold scA
      congr 1
      funext p
      exact gd hi
theorem scan_sim (h : RH n nk nf True σ τ ad fr ro bs re ns rl so cc so cc) (hf : σ.1 20 = 0) (hst : τ.1 12 = 0) (hw : σ.1 19 = τ.1 16) (hlt : so < rl) {most x : Int32} (hm : ¬ most ≤ x) :
    ∃ σ' τ' ad' fr' ro' re' rl' so' cc', fRoom_scanCells_B2 (2 * n) most (x, σ) = some (1, (x + 1, σ')) ∧ fMod_scanCell τ = some τ' ∧ EvX2 σ σ' ∧ EvM2 τ τ' ∧ (∀ p, τ.2 6 p ≠ 3 → ad' p = ad p) ∧ RH n nk nf (σ'.1 20 = 0) σ' τ' ad' fr' ro' bs re' ns rl' so' cc' so' cc' ∧ σ'.1 19 = τ'.1 16 ∧ ((σ'.1 20 = 1 ∧ τ'.1 12 = 3) ∨ (σ'.1 20 = 0 ∧ τ'.1 12 = 0)) := by
  have h0 := h
  obtain ⟨r1, r2, r3, r4, r5, r6, r7, r8, r9, oT⟩ := sc_nums h hlt
  obtain ⟨⟨hn1, hn2, hf6, hK⟩, hG, hO, hD, hF, hR, hS, hC⟩ := h
  have hC := hC trivial
  obtain ⟨g1, g2, g3, g4, g5, g6, g7, g8, g9, g10, g11⟩ := hG
  obtain ⟨s1, s2, s3, s4, s5, s6, s7⟩ := hS
  obtain ⟨oa, -, oH, -, -, -, oI, oR⟩ := hO (ro so) r1 (by rw [r2]; decide)
  have hs := sz_le hK oT
  have hnr := ob_nr hK oT
  have hid := ob_id hK hf6 oT
  have hsz : szN τ (ro so) = 1 + nrN τ (ro so) + niN τ (ro so) := rfl
  have hnx : (nxS τ ro so cc = so + 1 ∧ nxC τ ro so cc = 0 ∧ cc + 1 = szN τ (ro so)) ∨ (nxS τ ro so cc = so ∧ nxC τ ro so cc = cc + 1 ∧ cc + 1 < szN τ (ro so)) := by
    unfold nxS nxC
    by_cases hl : cc + 1 = szN τ (ro so)
    · rw [if_pos hl, if_pos hl]; exact Or.inl ⟨rfl, rfl, hl⟩
    · rw [if_neg hl, if_neg hl]; exact Or.inr ⟨rfl, rfl, by omega⟩
  have e2 : (msA τ (decide (cc + 1 = szN τ (ro so)))).2 = τ.2 := by unfold msA; split <;> rfl
  have eM : EvM2 τ (msA τ (decide (cc + 1 = szN τ (ro so)))) := by
    refine ⟨fun j _ _ h7 h8 _ h16 => ?_, fun k _ _ => by rw [e2], fun p _ => by rw [e2], fun p h => by rw [e2]; exact h⟩
    unfold msA
    split
    · show upd (upd (upd (upd τ.1 16 _) 8 _) 7 _) 8 _ j = _
      rw [upd_n h8, upd_n h7, upd_n h8, upd_n h16]
    · show upd (upd τ.1 16 _) 8 _ j = _
      rw [upd_n h8, upd_n h16]
  have e12' : (msA τ (decide (cc + 1 = szN τ (ro so)))).1 12 = τ.1 12 := by unfold msA; split <;> rfl
  have e16' : (msA τ (decide (cc + 1 = szN τ (ro so)))).1 16 = τ.1 16 + 1 := by unfold msA; split <;> rfl
  have hM := m_scan1 r1 hK oT s4 s5 r3 r9 (show cc < 9 by omega)
  have hB := x_scanBody (L := 2 * n) (σ := σ) (most := most) (x := x) hm g3 s3 (by omega) (by omega) (by omega) (by omega) hf
  by_cases hc0 : cc = 0
  · -- a head
    have e14 : σ.1 14 = σ.1 15 := by rw [s3, s6 hc0]; congr 1; omega
    have hhd : isHd (σ.2 10 (bs + sumTo (rsz τ ro) so + cc)) (idN τ (ro so)) (nrN τ (ro so)) (niN τ (ro so)) := ⟨hid, hnr.1, hnr.2, by rw [hc0, Nat.add_zero, ← r4]; exact oH⟩
    have hX : fRoom_scanCells_B2 (2 * n) most (x, σ) = some (1, (x + 1, scH σ (nrN τ (ro so)) (szN τ (ro so)))) := by
      rw [hB, if_pos e14, x_refsIn hhd, Option.bind_some]
      show (fRoom_sizeIn (2 * n) (upd (scA σ).1 16 ((σ.1 14 + 1) + nI (nrN τ (ro so))), σ.2) (σ.2 10 (bs + sumTo (rsz τ ro) so + cc))).bind _ = _
      rw [x_sizeIn hhd]
      rfl
    have hR' := RH_adv (σ' := scH σ (nrN τ (ro so)) (szN τ (ro so))) h0 hlt rfl rfl rfl rfl rfl rfl (fun _ => ⟨rfl, rfl⟩) (fun z => absurd hc0 z)
    refine ⟨scH σ (nrN τ (ro so)) (szN τ (ro so)), msA τ (decide (cc + 1 = szN τ (ro so))), ad, fr, ro, re, rl, nxS τ ro so cc, nxC τ ro so cc, hX, ?_, ?_, eM, fun _ _ => rfl, ?_, ?_, Or.inr ⟨hf, by rw [e12']; exact hst⟩⟩
    · rw [hM]; exact m_J62a (by omega)
    · refine ⟨fun j hj => ?_, fun _ _ => rfl⟩
      show upd (upd (upd (upd σ.1 14 _) 19 _) 16 _) 15 _ j = _
      rw [upd_n (by omega), upd_n (by omega), upd_n (by omega), upd_n (by omega)]
    · obtain ⟨b1, b2, b3, b4, b5, b6, b7, -⟩ := hR'
      refine ⟨b1, b2, b3, b4, b5, b6, b7, fun _ => ?_⟩
      have := HC_ext hC hlt hnx (fun j hj _ => absurd hj (by omega))
      unfold HC Clean nrN krN at this ⊢
      rw [e2]; exact this
    · rw [e16', ← hw]; rfl
  · have e14 : ¬ σ.1 14 = σ.1 15 := by rw [s3, (s7 hc0).1, nI_eq' (by omega) (by omega)]; omega
    by_cases hint : 1 + nrN τ (ro so) ≤ cc
    · -- an int
      have e16 : σ.1 16 ≤ σ.1 14 := by rw [s3, (s7 hc0).2, nI_le' (by omega) (by omega)]; omega
      have hR' := RH_adv (σ' := scA σ) h0 hlt rfl rfl rfl rfl rfl rfl (fun z => absurd z hc0) (fun _ => ⟨rfl, rfl⟩)
      refine ⟨scA σ, msA τ (decide (cc + 1 = szN τ (ro so))), ad, fr, ro, re, rl, nxS τ ro so cc, nxC τ ro so cc, ?_, ?_, ?_, eM, fun _ _ => rfl, ?_, ?_, Or.inr ⟨hf, by rw [e12']; exact hst⟩⟩
      · rw [hB, if_neg e14, if_pos e16]
      · have hq : sameO τ (msA τ (decide (cc + 1 = szN τ (ro so)))) := by unfold sameO; rw [e2]; exact ⟨rfl, rfl, rfl, rfl, rfl, rfl⟩
        obtain ⟨q1, q2, q3, q4, q5, q6⟩ := same_sz hq
        rw [hM, m_J62b r1 (q6 nk hK) (q5 nk nf _ oT) (by omega) (by omega), q1, if_pos (by omega)]
      · refine ⟨fun j hj => ?_, fun _ _ => rfl⟩
        show upd (upd σ.1 14 _) 19 _ j = _
        rw [upd_n (by omega), upd_n (by omega)]
      · obtain ⟨b1, b2, b3, b4, b5, b6, b7, -⟩ := hR'
        refine ⟨b1, b2, b3, b4, b5, b6, b7, fun _ => ?_⟩
        have := HC_ext hC hlt hnx (fun j hj hj2 => absurd hj (by omega))
        unfold HC Clean nrN krN at this ⊢
        rw [e2]; exact this
      · rw [e16', ← hw]; rfl
    · -- a ref
      have e16 : ¬ σ.1 16 ≤ σ.1 14 := by rw [s3, (s7 hc0).2, nI_le' (by omega) (by omega)]; omega
      have hR' := RH_adv (σ' := scA σ) h0 hlt rfl rfl rfl rfl rfl rfl (fun z => absurd z hc0) (fun _ => ⟨rfl, rfl⟩)
      have hq : sameO τ (msA τ (decide (cc + 1 = szN τ (ro so)))) := by unfold sameO; rw [e2]; exact ⟨rfl, rfl, rfl, rfl, rfl, rfl⟩
      obtain ⟨q1, q2, q3, q4, q5, q6⟩ := same_sz hq
      rw [m_J62b r1 (q6 nk hK) (q5 nk nf _ oT) (by omega) (by omega), q1, if_neg (by omega)] at hM
      have hro : RefOK (msA τ (decide (cc + 1 = szN τ (ro so)))) ad fr (ro so) (cc - 1) (σ.2 10 (bs + sumTo (rsz τ ro) so + cc)) := by
        have := oR (cc - 1) (by omega)
        rw [show ad (ro so) + 1 + (cc - 1) = bs + sumTo (rsz τ ro) so + cc by omega] at this
        unfold RefOK at this ⊢
        rw [e2]; exact this
      obtain ⟨r, σb, b, τb, ad', fr', ro', re', rl', hX, hRd, eX, eMb, hsame, ⟨hro', hrl'⟩, hRH, hw', hcase⟩ := bring_sim hR' (show (scA σ).1 20 = 0 from hf) (by rw [e12']; exact hst) (by rw [e16', ← hw]; rfl) (by omega) hro
      have eXa : EvX2 σ (scA σ) := by
        refine ⟨fun j hj => ?_, fun _ _ => rfl⟩
        show upd (upd σ.1 14 _) 19 _ j = _
        rw [upd_n (by omega), upd_n (by omega)]
      have hno3 : τ.2 6 (ro so) ≠ 3 := by rw [r2]; decide
      have ead : ad' (ro so) = ad (ro so) := hsame (ro so) (by rw [e2]; exact hno3)
      have eage : τb.2 6 (ro so) = 2 := by rw [eMb.2.2.1 (ro so) (by rw [e2]; exact hno3), e2]; exact r2
      have enr : nrN τb (ro so) = nrN τ (ro so) := by unfold nrN krN; rw [eMb.2.1 7 (by decide) (by decide), eMb.2.1 0 (by decide) (by decide), e2]
      have esz : szN τb (ro so) = szN τ (ro so) := by unfold szN; rw [enr]; unfold niN kiN; rw [eMb.2.1 7 (by decide) (by decide), eMb.2.1 1 (by decide) (by decide), e2]
      have eros : ro' so = ro so := hro' so hlt
      refine ⟨(σb.1, va_up σb.2 10 (upd (σb.2 10) (bs + sumTo (rsz τ ro) so + cc) r)), τb, ad', fr', ro', re', rl', nxS τ ro so cc, nxC τ ro so cc, ?_, ?_, eXa.tr (eX.to2.tr (EvX.cell σb _).to2), eM.tr eMb.to2, fun p hp => hsame p (by rw [e2]; exact hp), ?_, hw', ?_⟩
      · rw [hB, if_neg e14, if_neg e16, hX, Option.bind_some]
      · rw [hM, hRd, Option.bind_some]
      · rcases hcase with ⟨a1, a2, a3, a4, a5, a6, a7⟩ | ⟨a1, a2, a3, a4, a5⟩
        · have e3 : va_up σb.2 10 (upd (σb.2 10) (bs + sumTo (rsz τ ro) so + cc) r) = σb.2 := by
            funext k
            by_cases hk : k = 10
            · subst hk
              rw [va_up_self]
              funext y
              by_cases hy : y = bs + sumTo (rsz τ ro) so + cc
              · subst hy; rw [upd_s, a7, a6]; rfl
              · rw [upd_n hy]
            · rw [va_up_n hk]
          rw [e3]
          obtain ⟨b1, b2, b3, b4, b5, b6, b7, -⟩ := hRH
          refine ⟨b1, b2, b3, b4, b5, b6, b7, fun z => ?_⟩
          rw [show (σb.1, σb.2).1 20 = σb.1 20 from rfl, a1] at z
          exact absurd z (by decide)
        · have hW := RH_write (v := r) (x := cc) (σ' := (σb.1, va_up σb.2 10 (upd (σb.2 10) (bs + sumTo (rsz τ ro) so + cc) r))) (τ' := τb) hRH r1 (Or.inr eage) (by omega) (by rw [esz]; omega) rfl rfl rfl rfl rfl rfl rfl (by show upd (σb.2 10) (bs + sumTo (rsz τ ro) so + cc) r = _; rw [ead, r4]) rfl rfl rfl rfl rfl ⟨rfl, rfl, rfl, rfl, rfl, rfl⟩ (fun _ _ _ _ _ => rfl) (fun _ _ _ _ _ => rfl) (fun i hi hix => by
            have : i = cc - 1 := by omega
            subst this
            exact ⟨a4, fun _ => a5⟩) (fun i hi hix => by rw [enr] at hix; omega)
          obtain ⟨b1, b2, b3, b4, b5, b6, b7, b8⟩ := hW
          refine ⟨b1, b2, b3, b4, b5, b6, b7, fun _ => ?_⟩
          refine HC_ext (b8 trivial) (by omega) (by rw [eros, esz]; exact hnx) (fun i hi hi2 => ?_)
          rw [eros] at hi2 ⊢
          have : i = cc - 1 := by omega
          subst this
          show Clean τb ad' (ro so) (cc - 1) (upd (σb.2 10) (bs + sumTo (rsz τ ro) so + cc) r (ad' (ro so) + 1 + (cc - 1)))
          rw [ead, show ad (ro so) + 1 + (cc - 1) = bs + sumTo (rsz τ ro) so + cc by omega, upd_s]
          exact a5
      · rcases hcase with ⟨a1, a2, -⟩ | ⟨a1, a2, -⟩
        · exact Or.inl ⟨a1, a2⟩
        · exact Or.inr ⟨a1, a2⟩
end SC2
