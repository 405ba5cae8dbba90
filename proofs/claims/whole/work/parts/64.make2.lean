/-! making, whole -/
section MK2
variable {n nk nf : Nat} {run : Prop} {σ τ : St} {ad fr ro : Nat → Nat} {bs re ns rl so cc zs zc o cur : Nat}
theorem m_make0 {kv mv : Int32} {id r i : Nat} (hK : KdT τ nk) (hk : KvOK τ nk nf kv mv id r i) : fMod_make τ kv mv = fMod_make_J25 τ kv mv (nI (1 + r + i)) := by
  unfold fMod_make
  rcases hk with ⟨h0, m, h1, h1', h2, h3, h4⟩ | ⟨k, h1, h1', h2, h3, h4⟩
  · rw [if_pos h0, h3, h4]; rfl
  · have := hK.1
    have hg : ix kv 4 := by rw [h1']; exact ix_n (by omega) (by omega)
    rw [if_neg (by rw [h1']; exact nI_m1 (by omega)), gd hg, gd hg, h1', nI_tc (by omega), (kr_le hK h1).2, (ki_le hK h1).2, show (1 : Int32) = nI 1 from rfl, nI_add, nI_add, h3, h4]
theorem kv_same {τ' : St} {kv mv : Int32} {id r i : Nat} (e0 : τ'.2 0 = τ.2 0) (e1 : τ'.2 1 = τ.2 1) (hk : KvOK τ nk nf kv mv id r i) : KvOK τ' nk nf kv mv id r i := by
  unfold KvOK krN kiN at hk ⊢; rw [e0, e1]; exact hk
theorem m_full {x1 x2 x3 : Int32} (h : ¬ τ.1 12 = 0) : fMod_make_J64 τ x1 x2 x3 = some (-1, τ) := by
  unfold fMod_make_J64; rw [if_neg h]
theorem x_full {L : Nat} {x1 x2 : Int32} : fRoom_make_J61 L σ x1 x2 = some (-1, (upd σ.1 20 1, σ.2)) := by
  unfold fRoom_make_J61 fRoom_make_J66
  rw [gd (Or.inr rfl), if_neg (by decide)]
theorem make_sim (h : RH n nk nf True σ τ ad fr ro bs re ns rl so cc so cc) (hf : σ.1 20 = 0) (hst : τ.1 12 = 0) (hw : σ.1 19 = τ.1 16) (hfl : σ.1 18 = τ.1 14) {pc : Nat} (hp1 : σ.1 10 = nI pc) (hp2 : τ.1 1 = nI pc) (hpc : pc ≤ 8) (hc : cur < 240) (hca : τ.2 6 cur = 1 ∨ τ.2 6 cur = 2) (hck : τ.2 7 cur = -1) (h9 : τ.1 9 = nI cur) (h11 : σ.1 11 = nI (ad cur)) {kv mv : Int32} {id r i : Nat} (hk : KvOK τ nk nf kv mv id r i) :
    ∃ res σ' res' τ' ad' fr' ro' bs' re' ns' rl' so' cc', fRoom_make (2 * n) σ (nI (hdN id r i)) = some (res, σ') ∧ fMod_make τ kv mv = some (res', τ') ∧ RH n nk nf (σ'.1 20 = 0) σ' τ' ad' fr' ro' bs' re' ns' rl' so' cc' so' cc' ∧ MkEnd n nk nf cur σ τ σ' τ' ad' res res' kv mv := by
  have hK := h.1.2.2.2
  have hf6 := h.1.2.2.1
  have hn2 := h.1.2.1
  have hn1 := h.1.1
  obtain ⟨k1, k2, k3⟩ := kv_lt hK hf6 hk
  have hmm : pc * (1 + r + i) < 1000 := by
    have : pc * (1 + r + i) ≤ 8 * 9 := Nat.mul_le_mul hpc (by omega)
    omega
  have hno3 : τ.2 6 cur ≠ 3 := by rcases hca with h | h <;> rw [h] <;> decide
  have hT : RH n nk nf (σ.1 20 = 0) σ τ ad fr ro bs re ns rl so cc so cc := by
    obtain ⟨b1, b2, b3, b4, b5, b6, b7, b8⟩ := h
    exact ⟨b1, b2, b3, b4, b5, b6, b7, fun _ => b8 trivial⟩
  obtain ⟨x, y, σ1, τ1, ad1, fr1, ro1, re1, rl1, so1, cc1, hLX, hLM, eX, eM, hsm, hR1, hw1, hc1⟩ := scan_loop (mm := pc * (1 + r + i)) hmm (x1 := kv) (x2 := mv) (x3 := nI (1 + r + i)) (pc * (1 + r + i)) 0 σ τ ad fr ro re rl so cc (by omega) (by rw [hp2, pk_mul]) hT hw (Or.inr ⟨hf, hst⟩) rbF rbF (by rw [rbF_val]; omega) (by rw [rbF_val]; omega)
  have hk1 : KvOK τ1 nk nf kv mv id r i := kv_same (eM.2.1 0 (by decide) (by decide)) (eM.2.1 1 (by decide) (by decide)) hk
  have hca1 : τ1.2 6 cur = 1 ∨ τ1.2 6 cur = 2 := by rw [eM.2.2.1 cur hno3]; exact hca
  have hck1 : τ1.2 7 cur = -1 := by rw [eM.2.1 7 (by decide) (by decide)]; exact hck
  have h91 : τ1.1 9 = nI cur := by rw [eM.1 9 (by decide) (by decide) (by decide) (by decide) (by decide) (by decide)]; exact h9
  have h111 : σ1.1 11 = nI (ad1 cur) := by rw [eX.1 11 (by omega), hsm cur hno3]; exact h11
  have hfl1 : σ1.1 18 = τ1.1 14 := by rw [eX.1 18 (by omega), eM.1 14 (by decide) (by decide) (by decide) (by decide) (by decide) (by decide)]; exact hfl
  have hsB : sameB τ τ1 := ⟨eM.2.1 7 (by decide) (by decide), eM.2.1 8 (by decide) (by decide), eM.2.1 9 (by decide) (by decide), eM.2.1 10 (by decide) (by decide)⟩
  have hCh : ∀ sk dl, Ch τ sk dl → sk 0 = cur → Ch τ1 sk dl := fun sk dl hC _ => hC.same hsB (fun i hi => eM.2.2.2 _ (hC.2.1 i hi).2.1)
  have hXs : fRoom_make (2 * n) σ (nI (hdN id r i)) = (if σ1.1 20 = 0 then ((fRoom_freeCells (2 * n) σ1).bind fun p24 => if nI (1 + r + i) ≤ p24.1 then (fRoom_make_J45 (2 * n) p24.2 (nI (hdN id r i)) (nI (1 + r + i))) else (if (p24.2.1 14) = (p24.2.1 13) then ((fRoom_flip (2 * n) p24.2).bind fun p42 => fRoom_make_J45 (2 * n) p42 (nI (hdN id r i)) (nI (1 + r + i))) else (fRoom_make_J45 (2 * n) p24.2 (nI (hdN id r i)) (nI (1 + r + i))))) else (fRoom_make_J45 (2 * n) σ1 (nI (hdN id r i)) (nI (1 + r + i)))) := by
    unfold fRoom_make
    rw [x_sizeIn ⟨k1, k2, k3, rfl⟩, Option.bind_some]
    show (fRoom_scanCells (2 * n) σ (σ.1 10 * nI (1 + r + i))).bind _ = _
    unfold fRoom_scanCells
    have e0 : rbLoop (fRoom_scanCells_B2 (2 * n) (σ.1 10 * nI (1 + r + i))) rbF (0, σ) = some (0, (x, σ1)) := by rw [hp1, pk_mul]; exact hLX
    rw [e0, Option.bind_some, Option.bind_some]
  have hMs : fMod_make τ kv mv = fMod_make_J64 τ1 kv mv (nI (1 + r + i)) := by
    rw [m_make0 hK hk]
    unfold fMod_make_J25
    have e0 : rbLoop (fMod_make_B29 kv mv (nI (1 + r + i))) rbF (0, τ) = some (0, (y, τ1)) := hLM
    rw [e0, Option.bind_some]
  rw [hXs, hMs]
  rcases hc1 with ⟨c1, c2⟩ | ⟨c1, c2⟩
  · -- full while scanning
    rw [if_neg (by rw [c1]; decide), m_full (by rw [c2]; decide)]
    have hX : fRoom_make_J45 (2 * n) σ1 (nI (hdN id r i)) (nI (1 + r + i)) = some (-1, (upd σ1.1 20 1, σ1.2)) := by
      unfold fRoom_make_J45
      rw [if_neg (by rw [c1]; decide)]
      exact x_full
    refine ⟨_, _, _, _, ad1, fr1, ro1, bs, re1, ns, rl1, so1, cc1, hX, rfl, ?_, ?_, eM.mk, hw1, hfl1, h111, hca1, Or.inl ⟨rfl, c2, hsB, hCh⟩⟩
    · obtain ⟨b1, b2, b3, b4, b5, b6, b7, -⟩ := hR1
      exact ⟨b1, b2, b3, b4, b5, b6, b7, fun z => absurd (show (1 : Int32) = 0 from z) (by decide)⟩
    · refine eX.xk.tr ⟨fun j hj => ?_, fun _ _ => rfl⟩
      exact upd_n (by omega)
  · have hRT : RH n nk nf True σ1 τ1 ad1 fr1 ro1 bs re1 ns rl1 so1 cc1 so1 cc1 := by
      obtain ⟨b1, b2, b3, b4, b5, b6, b7, b8⟩ := hR1
      exact ⟨b1, b2, b3, b4, b5, b6, b7, fun _ => b8 c1⟩
    have hG := hRT.2.1
    obtain ⟨g1, g2, g3, g4, g5, g6, g7, g8, g9, g10, g11⟩ := hG
    rw [if_pos c1, x_free g3 g4 g8, Option.bind_some]
    show ∃ res σ' res' τ' ad' fr' ro' bs' re' ns' rl' so' cc', (if nI (1 + r + i) ≤ nI (ns - re1) then (fRoom_make_J45 (2 * n) σ1 (nI (hdN id r i)) (nI (1 + r + i))) else (if (σ1.1 14) = (σ1.1 13) then ((fRoom_flip (2 * n) σ1).bind fun p42 => fRoom_make_J45 (2 * n) p42 (nI (hdN id r i)) (nI (1 + r + i))) else (fRoom_make_J45 (2 * n) σ1 (nI (hdN id r i)) (nI (1 + r + i))))) = some (res, σ') ∧ _
    have hMJ : fMod_make_J64 τ1 kv mv (nI (1 + r + i)) = if 1 + r + i ≤ ns - re1 then fMod_make_J97 τ1 kv mv (nI (1 + r + i)) else (if τ1.1 7 = τ1.1 6 then (fMod_flip τ1).bind (fun p94 => fMod_make_J97 p94 kv mv (nI (1 + r + i))) else fMod_make_J97 τ1 kv mv (nI (1 + r + i))) := by
      unfold fMod_make_J64
      have hcond : (τ1.1 5 + nI (1 + r + i) ≤ τ1.1 0) = (1 + r + i ≤ ns - re1) := by
        rw [g10, g6, nI_add, nI_le' (by omega) (by omega)]
        exact propext ⟨fun z => by omega, fun z => by omega⟩
      rw [if_pos c2]
      by_cases hfit : 1 + r + i ≤ ns - re1
      · rw [if_pos (hcond ▸ hfit : τ1.1 5 + nI (1 + r + i) ≤ τ1.1 0), if_pos hfit]
      · rw [if_neg (fun z => hfit (hcond ▸ z)), if_neg hfit]
        unfold fMod_rowDone
        by_cases hrd : τ1.1 7 = τ1.1 6
        · rw [if_pos hrd, if_pos hrd, Option.bind_some]
          show (if (1 : Int32) = 0 then _ else _) = _
          rw [if_neg (by decide)]
        · rw [if_neg hrd, if_neg hrd, Option.bind_some]
          show (if (0 : Int32) = 0 then _ else _) = _
          rw [if_pos rfl]
    rw [hMJ]
    by_cases hfit : 1 + r + i ≤ ns - re1
    · rw [if_pos (show nI (1 + r + i) ≤ nI (ns - re1) by rw [nI_le' (by omega) (by omega)]; exact hfit), if_pos hfit]
      exact tail_end hRT hk1 hfit c1 c2 hw1 hfl1 hc hca1 h111 eX.xk eM.mk hsB hCh
    · rw [if_neg (show ¬ nI (1 + r + i) ≤ nI (ns - re1) by rw [nI_le' (by omega) (by omega)]; exact hfit), if_neg hfit]
      have hS := hRT.2.2.2.2.2.2.1
      obtain ⟨s1, s2, s3, s4, s5, s6, s7⟩ := hS
      have hRr := hRT.2.2.2.2.2.1
      by_cases hdn : so1 = rl1
      · -- a flip
        have hcc : cc1 = 0 := by rcases s2 with h | h <;> omega
        rw [if_pos (show σ1.1 14 = σ1.1 13 by rw [s3, g3, hdn, hcc, Nat.add_zero, ← hRr.2.1]), if_pos (show τ1.1 7 = τ1.1 6 by rw [s4, g11, hdn])]
        obtain ⟨σ2, τ2, ad2, fr2, ro2, hX2, hM2, hR2, hcur2, hage2, xk2, mk2, sb2, hw2, hfl2, hf2, hst2, hlive2⟩ := flip_sim hRT hdn hw1 hfl1 hc hca1 hck1 h91 h111
        rw [hX2, hM2, Option.bind_some, Option.bind_some]
        have hk2 : KvOK τ2 nk nf kv mv id r i := kv_same (mk2.2 0 (by omega)) (mk2.2 1 (by omega)) hk1
        refine tail_end hR2 hk2 (by omega) (by rw [hf2]; exact c1) (by rw [hst2]; exact c2) hw2 hfl2 hc (Or.inr hage2) hcur2 (eX.xk.tr xk2) (eM.mk.tr mk2) ⟨sb2.1.trans hsB.1, sb2.2.1.trans hsB.2.1, sb2.2.2.1.trans hsB.2.2.1, sb2.2.2.2.trans hsB.2.2.2⟩ ?_
        intro sk dl hC hs
        have hC1 := hCh sk dl hC hs
        have hh := chain_here hRT hdn hC1 (by rw [hs]; exact hca1)
        exact hC1.same sb2 (fun i hi => hlive2 _ (hC1.2.1 i hi).1 (hh i hi))
      · -- no flip: out of room
        have hge := sumTo_ge (f := rsz τ1 ro1) rl1 (fun i hi => by
          have h1 := hRr.1 i hi
          exact (sz_le hRT.1.2.2.2 (hRT.2.2.1 (ro1 i) h1.1 (by rw [h1.2.1]; decide)).2.1).1)
        have hre := hRr.2.1
        have hlt : so1 < rl1 := by omega
        have hnum := sc_nums hRT hlt
        obtain ⟨-, -, -, -, n5, n6, n7, -, -, -⟩ := hnum
        rw [if_neg (show ¬ σ1.1 14 = σ1.1 13 by rw [s3, g3, nI_eq' (by omega) (by omega)]; omega), if_neg (show ¬ τ1.1 7 = τ1.1 6 by rw [s4, g11, nI_eq' (by omega) (by omega)]; exact hdn)]
        have hX : fRoom_make_J45 (2 * n) σ1 (nI (hdN id r i)) (nI (1 + r + i)) = some (-1, (upd σ1.1 20 1, σ1.2)) := by
          unfold fRoom_make_J45
          rw [if_pos c1, x_free g3 g4 g8, Option.bind_some]
          show (if nI (1 + r + i) ≤ nI (ns - re1) then _ else fRoom_make_J61 (2 * n) σ1 (nI (hdN id r i)) (nI (1 + r + i))) = _
          rw [if_neg (show ¬ nI (1 + r + i) ≤ nI (ns - re1) by rw [nI_le' (by omega) (by omega)]; exact hfit)]
          exact x_full
        have hM : fMod_make_J97 τ1 kv mv (nI (1 + r + i)) = some (-1, (upd τ1.1 12 3, τ1.2)) := by
          unfold fMod_make_J97
          rw [if_neg (show ¬ τ1.1 5 + nI (1 + r + i) ≤ τ1.1 0 by rw [g10, g6, nI_add, nI_le' (by omega) (by omega)]; omega)]
        refine ⟨_, _, _, _, ad1, fr1, ro1, bs, re1, ns, rl1, so1, cc1, hX, hM, ?_, ?_, ?_, hw1, hfl1, h111, hca1, Or.inl ⟨rfl, rfl, hsB, fun sk dl hC hs => (hCh sk dl hC hs)⟩⟩
        · obtain ⟨b1, b2, b3, b4, b5, b6, b7, -⟩ := hR1
          exact ⟨b1, b2, b3, b4, b5, b6, b7, fun z => absurd (show (1 : Int32) = 0 from z) (by decide)⟩
        · exact eX.xk.tr ⟨fun j hj => upd_n (by omega), fun _ _ => rfl⟩
        · exact eM.mk.tr ⟨fun j _ _ _ _ h5 _ _ => upd_n h5, fun _ _ => rfl⟩
end MK2
