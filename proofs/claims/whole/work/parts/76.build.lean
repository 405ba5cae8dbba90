/-! building: the heap stays -/
section BD
variable {n nk nf op pc : Nat} {run : Prop} {σ τ : St} {ad : Nat → Nat} {cur dl o j : Nat} {sk : Nat → Nat}
theorem ObT.mono {nk' nf' : Nat} (h1 : nk ≤ nk') (h2 : nf ≤ nf') (h : ObT τ nk nf o) : ObT τ nk' nf' o := by
  rcases h with ⟨a, m, b, c⟩ | ⟨k, b, c⟩
  · exact Or.inl ⟨a, m, by omega, c⟩
  · exact Or.inr ⟨k, by omega, c⟩
theorem RH_nf {nf' : Nat} {fr ro : Nat → Nat} {bs re ns rl so cc zs zc : Nat} (h : RH n nk nf run σ τ ad fr ro bs re ns rl so cc zs zc) (h1 : nf ≤ nf') (h2 : nf' ≤ 6) : RH n nk nf' run σ τ ad fr ro bs re ns rl so cc zs zc := by
  obtain ⟨⟨a1, a2, a3, a4⟩, b, c, d⟩ := h
  refine ⟨⟨a1, a2, h2, a4⟩, b, fun o ho ha => ?_, d⟩
  obtain ⟨e1, e2, e3⟩ := c o ho ha
  exact ⟨e1, e2.mono (Nat.le_refl _) h1, e3⟩
/-- more kinds: what is there stays -/
theorem RH_nk {nk' : Nat} {τ' : St} {fr ro : Nat → Nat} {bs re ns rl so cc zs zc : Nat} (h : RH n nk nf run σ τ ad fr ro bs re ns rl so cc zs zc) (h1 : nk ≤ nk') (hK' : KdT τ' nk') (f0 : τ'.1 0 = τ.1 0) (f5 : τ'.1 5 = τ.1 5) (f6 : τ'.1 6 = τ.1 6) (f7 : τ'.1 7 = τ.1 7) (f8 : τ'.1 8 = τ.1 8) (e6 : τ'.2 6 = τ.2 6) (e7 : τ'.2 7 = τ.2 7) (e8 : τ'.2 8 = τ.2 8) (e9 : τ'.2 9 = τ.2 9) (e10 : τ'.2 10 = τ.2 10) (e11 : τ'.2 11 = τ.2 11) (hk : ∀ k, k < nk → τ'.2 0 k = τ.2 0 k ∧ τ'.2 1 k = τ.2 1 k) : RH n nk' nf run σ τ' ad fr ro bs re ns rl so cc zs zc := by
  obtain ⟨⟨a1, a2, a3, a4⟩, hG, hO, hD, hF, hR, hS, hC⟩ := h
  have hn4 := a4.1
  have nr : ∀ o, ObT τ nk nf o → nrN τ' o = nrN τ o ∧ niN τ' o = niN τ o := by
    intro o ho
    unfold nrN niN krN kiN
    rw [e7]
    rcases ho with ⟨a, -⟩ | ⟨k, b, c⟩
    · rw [if_pos a, if_pos a, if_pos a, if_pos a]; exact ⟨rfl, rfl⟩
    · have hne : ¬ τ.2 7 o = -1 := by rw [c]; exact nI_m1 (by omega)
      rw [if_neg hne, if_neg hne, if_neg hne, if_neg hne, c, nI_tc (by omega), (hk k b).1, (hk k b).2]
      exact ⟨rfl, rfl⟩
  have sz : ∀ o, ObT τ nk nf o → szN τ' o = szN τ o := fun o ho => by unfold szN; rw [(nr o ho).1, (nr o ho).2]
  have id' : ∀ o, idN τ' o = idN τ o := fun o => by unfold idN; rw [e7, e8]
  have obT : ∀ o, ObT τ nk nf o → ObT τ' nk' nf o := fun o ho => by
    have := ho.mono h1 (Nat.le_refl nf)
    unfold ObT at this ⊢
    rw [e7, e8]; exact this
  have rf : ∀ o j v, RefOK τ ad fr o j v → RefOK τ' ad fr o j v := fun o j v h => by unfold RefOK at h ⊢; rw [e9, e6, e7]; exact h
  have cl : ∀ o j v, Clean τ ad o j v → Clean τ' ad o j v := fun o j v h => by unfold Clean at h ⊢; rw [e9, e6]; exact h
  have lv : ∀ i, i < rl → ObT τ nk nf (ro i) := fun i hi => (hO (ro i) (hR.1 i hi).1 (by rw [(hR.1 i hi).2.1]; decide)).2.1
  have sm : ∀ i, i ≤ rl → sumTo (rsz τ' ro) i = sumTo (rsz τ ro) i := fun i hi => sumTo_congr i (fun k hk => by unfold rsz; exact sz _ (lv k (by omega)))
  refine ⟨⟨a1, a2, a3, hK'⟩, ?_, ?_, ?_, ?_, ?_, ?_, ?_⟩
  · obtain ⟨g1, g2, g3, g4, g5, g6, g7, g8, g9, g10, g11⟩ := hG
    exact ⟨g1, g2, g3, g4, g5, f0.trans g6, g7, g8, g9, f5.trans g10, f6.trans g11⟩
  · intro o ho ha
    rw [e6] at ha
    obtain ⟨o1, o2, o3, o4, o5, o6, o7, o8⟩ := hO o ho ha
    have hz := sz o o2
    have hr := nr o o2
    refine ⟨by rw [e6]; exact o1, obT o o2, by rw [id', hr.1, hr.2]; exact o3, by rw [e6, hz]; exact o4, by rw [e6, hz]; exact o5, by rw [e6, hz]; exact o6, fun j hj => ?_, fun j hj => ?_⟩
    · rw [hr.2] at hj; rw [hr.1, e10]; exact o7 j hj
    · rw [hr.1] at hj; exact rf o j _ (o8 j hj)
  · intro o p ho hp ha hb hne
    rw [e6] at ha hb
    rw [sz o (hO o ho ha).2.1, sz p (hO p hp hb).2.1]
    exact hD o p ho hp ha hb hne
  · intro o ho ha
    rw [e6] at ha
    obtain ⟨b1, b2, b3, b4⟩ := hF o ho ha
    refine ⟨b1, b2, b3, fun p hp hpa => ?_⟩
    rw [e6] at hpa
    rw [sz p (hO p hp (by rw [hpa]; decide)).2.1]
    exact b4 p hp hpa
  · refine ⟨fun i hi => ?_, by rw [sm rl (Nat.le_refl _)]; exact hR.2.1, by rw [e6]; exact hR.2.2⟩
    rw [e6, e11, sm i (by omega)]
    exact hR.1 i hi
  · obtain ⟨s1, s2, s3, s4, s5, s6, s7⟩ := hS
    refine ⟨s1, ?_, by rw [sm so s1]; exact s3, f7.trans s4, f8.trans s5, by rw [sm so s1]; exact s6, fun h => ?_⟩
    · rcases s2 with h | ⟨h, h'⟩
      · exact Or.inl h
      · exact Or.inr ⟨h, by rw [sz _ (lv so h)]; exact h'⟩
    · have hlt : so < rl := by rcases s2 with h' | h'; exact absurd h' h; exact h'.1
      rw [sm so s1, sm (so + 1) (by omega), (nr _ (lv so hlt)).1]
      exact s7 h
  · intro z
    obtain ⟨c0, c1, c2⟩ := hC z
    refine ⟨c0, fun o ho ha j hj => ?_, fun i hi j hj hz => ?_⟩
    · rw [e6] at ha
      rw [(nr o (hO o ho (by rw [ha]; decide)).2.1).1] at hj
      exact cl o j _ (c1 o ho ha j hj)
    · rw [(nr _ (lv i hi)).1] at hj
      exact cl _ j _ (c2 i hi j hj hz)
/-- a frame's place stays while its method's length does -/
theorem pl_keep {τ' : St} (hT : ObT τ nk nf o) (hk : τ.2 7 o = -1) (hn : nk ≤ 4) (hf : nf ≤ 6) (h : PlOK τ o) (e8 : τ'.2 8 = τ.2 8) (e10 : τ'.2 10 = τ.2 10) (hl : ∀ m, m < nf → τ'.2 4 m = τ.2 4 m) : PlOK τ' o := by
  obtain ⟨m, q, h1, h2, h3, h4⟩ := h
  rcases hT with ⟨-, m', b, c⟩ | ⟨k, b, c⟩
  · have : m = m' := nI_inj (by omega) (by omega) (h1.symm.trans c)
    subst this
    exact ⟨m, q, by rw [e8]; exact h1, h2, by unfold lenN; rw [hl m b]; exact h3, by rw [e10]; exact h4⟩
  · rw [hk] at c; exact absurd c.symm (nI_m1 (by omega))
theorem hp_keep {nk' nf' : Nat} {τ' : St} (h : HP n nk nf run σ τ ad cur sk dl) (h1 : nk ≤ nk') (h2 : nf ≤ nf') (h3 : nf' ≤ 6) (hK' : KdT τ' nk') (f0 : τ'.1 0 = τ.1 0) (f5 : τ'.1 5 = τ.1 5) (f6 : τ'.1 6 = τ.1 6) (f7 : τ'.1 7 = τ.1 7) (f8 : τ'.1 8 = τ.1 8) (f9 : τ'.1 9 = τ.1 9) (f14 : τ'.1 14 = τ.1 14) (f16 : τ'.1 16 = τ.1 16) (e6 : τ'.2 6 = τ.2 6) (e7 : τ'.2 7 = τ.2 7) (e8 : τ'.2 8 = τ.2 8) (e9 : τ'.2 9 = τ.2 9) (e10 : τ'.2 10 = τ.2 10) (e11 : τ'.2 11 = τ.2 11) (hk : ∀ k, k < nk → τ'.2 0 k = τ.2 0 k ∧ τ'.2 1 k = τ.2 1 k) (hl : ∀ m, m < nf → τ'.2 4 m = τ.2 4 m) : HP n nk' nf' run σ τ' ad cur sk dl ∧ (PlOK τ cur → PlOK τ' cur) := by
  have hob : ∀ i, i < dl → ObT τ nk nf (sk i) ∧ τ.2 7 (sk i) = -1 := fun i hi => by
    have hC := h.2.2.2.2.2.1.2.1 i hi
    exact ⟨(hp_obj h hC.1 hC.2.1).1, hC.2.2⟩
  have hn4 : nk ≤ 4 ∧ nf ≤ 6 := by
    obtain ⟨⟨fr, ro, bs, re, ns, rl, so, cc, hR⟩, -⟩ := h
    exact ⟨hR.1.2.2.2.1, hR.1.2.2.1⟩
  have hc := hp_curk h
  obtain ⟨⟨fr, ro, bs, re, ns, rl, so, cc, hR⟩, g1, g2, g3, g4, gC, gs, gpl, gw, gfl⟩ := h
  have hoc := hob 0 (by have := gC.1; omega)
  rw [gs] at hoc
  refine ⟨⟨⟨fr, ro, bs, re, ns, rl, so, cc, RH_nf (RH_nk hR h1 hK' f0 f5 f6 f7 f8 e6 e7 e8 e9 e10 e11 hk) h2 h3⟩, g1, by rw [e6]; exact g2, f9.trans g3, g4, gC.same ⟨e7, e8, e9, e10⟩ (fun i hi => by rw [e6]; exact (gC.2.1 i hi).2.1), gs, fun i hi1 hi2 => ?_, by rw [f16]; exact gw, by rw [f14]; exact gfl⟩, fun hp => pl_keep hoc.1 hoc.2 hn4.1 hn4.2 hp e8 e10 hl⟩
  exact pl_keep (hob i hi2).1 (hob i hi2).2 hn4.1 hn4.2 (gpl i hi1 hi2) e8 e10 hl
/-- RR with other tables -/
theorem rr_keep {nk' nf' op' : Nat} {σ' τ' : St} (h : RR n nk nf op pc σ τ) (hS : Stat n σ' τ' nk' nf' op' pc) (hσ : ∀ j, j ≠ 6 → j ≠ 7 → j ≠ 8 → σ'.1 j = σ.1 j) (hc : σ'.2 10 = σ.2 10) (h1 : nk ≤ nk') (h2 : nf ≤ nf') (h3 : nf' ≤ 6) (hτ : ∀ j, j ≠ 2 → j ≠ 3 → j ≠ 4 → τ'.1 j = τ.1 j) (hα : ∀ k, 6 ≤ k → τ'.2 k = τ.2 k) (hk : ∀ k, k < nk → τ'.2 0 k = τ.2 0 k ∧ τ'.2 1 k = τ.2 1 k) (hl : ∀ m, m < nf → τ'.2 4 m = τ.2 4 m) : RR n nk' nf' op' pc σ' τ' := by
  refine ⟨hS, ?_⟩
  rcases h.2 with hI | ⟨ad, cur, sk, dl, hH, hC⟩
  · refine Or.inl ?_
    unfold Ini at hI ⊢
    rw [hσ 1 (by decide) (by decide) (by decide), hσ 2 (by decide) (by decide) (by decide), hσ 13 (by decide) (by decide) (by decide), hσ 14 (by decide) (by decide) (by decide), hσ 18 (by decide) (by decide) (by decide), hσ 19 (by decide) (by decide) (by decide), hτ 12 (by decide) (by decide) (by decide), hτ 7 (by decide) (by decide) (by decide), hτ 6 (by decide) (by decide) (by decide), hτ 8 (by decide) (by decide) (by decide), hτ 5 (by decide) (by decide) (by decide), hτ 14 (by decide) (by decide) (by decide), hτ 16 (by decide) (by decide) (by decide)]
    exact hI
  · refine Or.inr ⟨ad, cur, sk, dl, ?_⟩
    obtain ⟨k1, k2⟩ := hp_keep (τ' := τ') hH h1 h2 h3 hS.1.2.2.1 (hτ 0 (by decide) (by decide) (by decide)) (hτ 5 (by decide) (by decide) (by decide)) (hτ 6 (by decide) (by decide) (by decide)) (hτ 7 (by decide) (by decide) (by decide)) (hτ 8 (by decide) (by decide) (by decide)) (hτ 9 (by decide) (by decide) (by decide)) (hτ 14 (by decide) (by decide) (by decide)) (hτ 16 (by decide) (by decide) (by decide)) (hα 6 (by decide)) (hα 7 (by decide)) (hα 8 (by decide)) (hα 9 (by decide)) (hα 10 (by decide)) (hα 11 (by decide)) hk hl
    have e20 := hσ 20 (by decide) (by decide) (by decide)
    have e1 := hσ 1 (by decide) (by decide) (by decide)
    have e2 := hσ 2 (by decide) (by decide) (by decide)
    have t12 := hτ 12 (by decide) (by decide) (by decide)
    have t10 := hτ 10 (by decide) (by decide) (by decide)
    have t13 := hτ 13 (by decide) (by decide) (by decide)
    refine ⟨?_, ?_⟩
    · unfold HP RH HG HS at k1 ⊢
      rw [hc, e20, hσ 9 (by decide) (by decide) (by decide), hσ 11 (by decide) (by decide) (by decide), hσ 12 (by decide) (by decide) (by decide), hσ 13 (by decide) (by decide) (by decide), hσ 14 (by decide) (by decide) (by decide), hσ 15 (by decide) (by decide) (by decide), hσ 16 (by decide) (by decide) (by decide), hσ 17 (by decide) (by decide) (by decide), hσ 18 (by decide) (by decide) (by decide), hσ 19 (by decide) (by decide) (by decide)]
      exact k1
    · unfold Ctl at hC ⊢
      rw [e20, e1, e2, t12, t10, t13]
      rcases hC with h | ⟨a, b, c, d, e⟩ | h
      · exact Or.inl h
      · exact Or.inr (Or.inl ⟨a, b, c, d, fun z => k2 (e z)⟩)
      · exact Or.inr (Or.inr h)
end BD
