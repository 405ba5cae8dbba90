/-! making an object, both sides -/
section MK1
variable {n nk nf : Nat} {run : Prop} {σ τ : St} {ad fr ro : Nat → Nat} {bs re ns rl so cc zs zc o cur : Nat}
/-- what a making wants of the kind: the class's head, the reference's kind and method -/
def KvOK (τ : St) (nk nf : Nat) (kv mv : Int32) (id r i : Nat) : Prop := (kv = -1 ∧ ∃ m, m < nf ∧ mv = nI m ∧ id = 4 + m ∧ r = 4 ∧ i = 4) ∨ ∃ k, k < nk ∧ kv = nI k ∧ id = k ∧ r = krN τ k ∧ i = kiN τ k
theorem kv_lt {kv mv : Int32} {id r i : Nat} (hK : KdT τ nk) (hf : nf ≤ 6) (h : KvOK τ nk nf kv mv id r i) : id < 10 ∧ r < 5 ∧ i < 5 := by
  rcases h with ⟨-, m, h1, -, h2, h3, h4⟩ | ⟨k, h1, -, h2, h3, h4⟩
  · omega
  · have a := (kr_le hK h1).1
    have b := (ki_le hK h1).1
    have := hK.1
    omega
theorem kv_new {kv mv : Int32} {id r i : Nat} (hK : KdT τ nk) (hf : nf ≤ 6) (h : KvOK τ nk nf kv mv id r i) (τ1 : Nat → Int32) : idN (τ1, crA τ o kv mv) o = id ∧ nrN (τ1, crA τ o kv mv) o = r ∧ niN (τ1, crA τ o kv mv) o = i := by
  have e7 : (τ1, crA τ o kv mv).2 7 o = kv := upd_s
  have e8 : (τ1, crA τ o kv mv).2 8 o = mv := upd_s
  unfold idN nrN niN
  rw [e7, e8]
  rcases h with ⟨h0, m, h1, h1', h2, h3, h4⟩ | ⟨k, h1, h1', h2, h3, h4⟩
  · rw [if_pos h0, if_pos h0, if_pos h0, h1', nI_tc (by omega)]; exact ⟨h2.symm, h3.symm, h4.symm⟩
  · have := hK.1
    have hne : ¬ kv = -1 := by rw [h1']; exact nI_m1 (by omega)
    rw [if_neg hne, if_neg hne, if_neg hne, h1', nI_tc (by omega)]; exact ⟨h2.symm, h3.symm, h4.symm⟩
/-- the tail of both: there is room -/
theorem tail_sim (h : RH n nk nf True σ τ ad fr ro bs re ns rl so cc so cc) {kv mv : Int32} {id r i : Nat} (hk : KvOK τ nk nf kv mv id r i) (hfit : 1 + r + i ≤ ns - re) (hf : σ.1 20 = 0) :
    ∃ o, o < 240 ∧ τ.2 6 o = 0 ∧ fRoom_make_J45 (2 * n) σ (nI (hdN id r i)) (nI (1 + r + i)) = some (nI (ns - (1 + r + i)), (upd (upd σ.1 20 0) 17 (nI (ns - (1 + r + i))), va_up σ.2 10 (newc (σ.2 10) (ns - (1 + r + i)) (nI (hdN id r i)) r (1 + r + i)))) ∧
      fMod_make_J97 τ kv mv (nI (1 + r + i)) = some (nI o, (upd τ.1 5 (τ.1 5 + nI (1 + r + i)), crA τ o kv mv)) ∧
      RH n nk nf True (upd (upd σ.1 20 0) 17 (nI (ns - (1 + r + i))), va_up σ.2 10 (newc (σ.2 10) (ns - (1 + r + i)) (nI (hdN id r i)) r (1 + r + i))) (upd τ.1 5 (τ.1 5 + nI (1 + r + i)), crA τ o kv mv) (put ad o (ns - (1 + r + i))) fr ro bs re (ns - (1 + r + i)) rl so cc so cc := by
  have h0 := h
  obtain ⟨⟨hn1, hn2, hf6, hK⟩, hG, hO, hD, hF, hR, hS, hC⟩ := h
  obtain ⟨g1, g2, g3, g4, g5, g6, g7, g8, g9, g10, g11⟩ := hG
  obtain ⟨k1, k2, k3⟩ := kv_lt hK hf6 hk
  have hk' : (kv = -1 ∧ ∃ m, m < nf ∧ mv = nI m) ∨ ∃ k, k < nk ∧ kv = nI k := by
    rcases hk with ⟨a, m, b, c, -⟩ | ⟨k, b, c, -⟩
    · exact Or.inl ⟨a, m, b, c⟩
    · exact Or.inr ⟨k, b, c⟩
  obtain ⟨o, o1, o2, o3, o4⟩ := m_create (nf := nf) (free_ex h0 (by omega)) hK hk'
  obtain ⟨q1, q2, q3⟩ := kv_new (o := o) hK hf6 hk τ.1
  have qs : szN (τ.1, crA τ o kv mv) o = 1 + r + i := by unfold szN; rw [q2, q3]
  refine ⟨o, o1, o2, ?_, ?_, ?_⟩
  · unfold fRoom_make_J45
    rw [if_pos hf, x_free g3 g4 g8, Option.bind_some]
    show (if nI (1 + r + i) ≤ nI (ns - re) then fRoom_make_J66 (2 * n) σ (nI (hdN id r i)) (nI (1 + r + i)) 0 else _) = _
    rw [if_pos (show nI (1 + r + i) ≤ nI (ns - re) by rw [nI_le' (by omega) (by omega)]; exact hfit)]
    exact x_make66 (by omega) k1 k2 k3 g4 (by omega) (by omega)
  · unfold fMod_make_J97
    rw [if_pos (show τ.1 5 + nI (1 + r + i) ≤ τ.1 0 by rw [g10, g6, nI_add, nI_le' (by omega) (by omega)]; omega), o4, Option.bind_some, qs]
  · have hT : ObT (upd τ.1 5 (τ.1 5 + nI (1 + r + i)), crA τ o kv mv) nk nf o := o3
    obtain ⟨r1, r2, r3⟩ := kv_new (o := o) hK hf6 hk (upd τ.1 5 (τ.1 5 + nI (1 + r + i)))
    have rs : szN (upd τ.1 5 (τ.1 5 + nI (1 + r + i)), crA τ o kv mv) o = 1 + r + i := by unfold szN; rw [r2, r3]
    have := RH_create (σ' := (upd (upd σ.1 20 0) 17 (nI (ns - (1 + r + i))), va_up σ.2 10 (newc (σ.2 10) (ns - (1 + r + i)) (nI (hdN id r i)) r (1 + r + i)))) h0 o1 o2 hT (by rw [rs]; exact hfit) rfl (by rw [rs]; rfl) rfl rfl rfl rfl rfl rfl rfl rfl rfl (by rw [rs]; rfl) (by rw [rs, r1, r2, r3]; rfl)
    rw [rs] at this
    exact this
/-- what holds behind a making -/
def MkEnd (n nk nf : Nat) (cur : Nat) (σ τ σ' τ' : St) (ad' : Nat → Nat) (res res' kv mv : Int32) : Prop :=
  XK σ σ' ∧ MK τ τ' ∧ σ'.1 19 = τ'.1 16 ∧ σ'.1 18 = τ'.1 14 ∧ σ'.1 11 = nI (ad' cur) ∧ (τ'.2 6 cur = 1 ∨ τ'.2 6 cur = 2) ∧
  ((σ'.1 20 = 1 ∧ τ'.1 12 = 3 ∧ sameB τ τ' ∧ (∀ sk dl, Ch τ sk dl → sk 0 = cur → Ch τ' sk dl)) ∨
   (σ'.1 20 = 0 ∧ τ'.1 12 = 0 ∧ ∃ o, o < 240 ∧ o ≠ cur ∧ res = nI (ad' o) ∧ res' = nI o ∧ τ'.2 6 o = 1 ∧ τ'.2 7 o = kv ∧ τ'.2 8 o = mv ∧ (∀ j, j < 4 → τ'.2 9 (4 * o + j) = -1 ∧ τ'.2 10 (4 * o + j) = 0) ∧ (∀ p, p ≠ o → τ'.2 7 p = τ.2 7 p ∧ τ'.2 8 p = τ.2 8 p ∧ ∀ j, j < 4 → τ'.2 9 (4 * p + j) = τ.2 9 (4 * p + j) ∧ τ'.2 10 (4 * p + j) = τ.2 10 (4 * p + j)) ∧ (∀ sk dl, Ch τ sk dl → sk 0 = cur → Ch τ' sk dl ∧ ∀ i, i < dl → sk i ≠ o)))
theorem crA_far {kv mv : Int32} {τ1 : Nat → Int32} : (∀ j, j < 4 → (τ1, crA τ o kv mv).2 9 (4 * o + j) = -1 ∧ (τ1, crA τ o kv mv).2 10 (4 * o + j) = 0) ∧ (∀ p, p ≠ o → (τ1, crA τ o kv mv).2 7 p = τ.2 7 p ∧ (τ1, crA τ o kv mv).2 8 p = τ.2 8 p ∧ (τ1, crA τ o kv mv).2 6 p = τ.2 6 p ∧ ∀ j, j < 4 → (τ1, crA τ o kv mv).2 9 (4 * p + j) = τ.2 9 (4 * p + j) ∧ (τ1, crA τ o kv mv).2 10 (4 * p + j) = τ.2 10 (4 * p + j)) := by
  refine ⟨fun j hj => ⟨?_, ?_⟩, fun p hp => ⟨?_, ?_, ?_, fun j hj => ⟨?_, ?_⟩⟩⟩
  · show fill (τ.2 9) o 4 (-1) (4 * o + j) = _; unfold fill; rw [if_pos (by omega)]
  · show fill (τ.2 10) o 4 0 (4 * o + j) = _; unfold fill; rw [if_pos (by omega)]
  · show upd (τ.2 7) o kv p = _; exact upd_n hp
  · show upd (τ.2 8) o mv p = _; exact upd_n hp
  · show upd (τ.2 6) o 1 p = _; exact upd_n hp
  · show fill (τ.2 9) o 4 (-1) (4 * p + j) = _; unfold fill; rw [if_neg (by omega)]
  · show fill (τ.2 10) o 4 0 (4 * p + j) = _; unfold fill; rw [if_neg (by omega)]
/-- the tail, said as the end of a making that began at σ0, τ0 -/
theorem tail_end {σ0 τ0 : St} (h : RH n nk nf True σ τ ad fr ro bs re ns rl so cc so cc) {kv mv : Int32} {id r i : Nat} (hk : KvOK τ nk nf kv mv id r i) (hfit : 1 + r + i ≤ ns - re) (hf : σ.1 20 = 0) (hst : τ.1 12 = 0) (hw : σ.1 19 = τ.1 16) (hfl : σ.1 18 = τ.1 14) (hc : cur < 240) (hca : τ.2 6 cur = 1 ∨ τ.2 6 cur = 2) (h11 : σ.1 11 = nI (ad cur))
    (x0 : XK σ0 σ) (m0 : MK τ0 τ) (b0 : sameB τ0 τ) (c0 : ∀ sk dl, Ch τ0 sk dl → sk 0 = cur → Ch τ sk dl) :
    ∃ res σ' res' τ' ad' fr' ro' bs' re' ns' rl' so' cc', fRoom_make_J45 (2 * n) σ (nI (hdN id r i)) (nI (1 + r + i)) = some (res, σ') ∧ fMod_make_J97 τ kv mv (nI (1 + r + i)) = some (res', τ') ∧ RH n nk nf (σ'.1 20 = 0) σ' τ' ad' fr' ro' bs' re' ns' rl' so' cc' so' cc' ∧ MkEnd n nk nf cur σ0 τ0 σ' τ' ad' res res' kv mv := by
  obtain ⟨o, o1, o2, hX, hM, hR⟩ := tail_sim h hk hfit hf
  have hoc : cur ≠ o := fun e => by rw [e, o2] at hca; exact absurd hca (by decide)
  obtain ⟨b7, b8, b9, b10⟩ := b0
  obtain ⟨w1, w2⟩ := crA_far (τ := τ) (o := o) (kv := kv) (mv := mv) (τ1 := upd τ.1 5 (τ.1 5 + nI (1 + r + i)))
  refine ⟨_, _, _, _, put ad o (ns - (1 + r + i)), fr, ro, bs, re, ns - (1 + r + i), rl, so, cc, hX, hM, ?_, ?_, ?_, hw, hfl, ?_, ?_, ?_⟩
  · obtain ⟨q1, q2, q3, q4, q5, q6, q7, q8⟩ := hR
    exact ⟨q1, q2, q3, q4, q5, q6, q7, fun _ => q8 trivial⟩
  · refine x0.tr ⟨fun j hj => ?_, fun k hk => va_up_n hk⟩
    show upd (upd σ.1 20 _) 17 _ j = _
    rw [upd_n (by omega), upd_n (by omega)]
  · refine m0.tr ⟨fun j h1 _ _ _ _ _ _ => upd_n h1, fun k hk => ?_⟩
    show crA τ o kv mv k = _
    unfold crA
    rw [va_up_n (by omega), va_up_n (by omega), va_up_n (by omega), va_up_n (by omega), va_up_n (by omega)]
  · rw [put_n hoc]; exact h11
  · rw [(w2 cur hoc).2.2.1]; exact hca
  · refine Or.inr ⟨rfl, hst, o, o1, Ne.symm hoc, by rw [put_s], rfl, upd_s, upd_s, upd_s, w1, fun p hp => ?_, fun sk dl hC hs => ?_⟩
    · obtain ⟨v1, v2, -, v4⟩ := w2 p hp
      rw [← b7, ← b8, ← b9, ← b10]
      exact ⟨v1, v2, v4⟩
    · obtain ⟨d1, d2, d3, d4, d5⟩ := c0 sk dl hC hs
      have hno : ∀ i, i < dl → sk i ≠ o := fun i hi e => (d2 i hi).2.1 (by rw [e]; exact o2)
      refine ⟨⟨d1, fun i hi => ?_, fun i hi => ?_, ?_, d5⟩, hno⟩
      · obtain ⟨v1, -, v3, -⟩ := w2 (sk i) (hno i hi)
        rw [v1, v3]; exact d2 i hi
      · rw [((w2 (sk i) (hno i (by omega))).2.2.2 3 (by omega)).1]; exact d3 i hi
      · rw [((w2 (sk (dl - 1)) (hno (dl - 1) (by omega))).2.2.2 3 (by omega)).1]; exact d4
end MK1
