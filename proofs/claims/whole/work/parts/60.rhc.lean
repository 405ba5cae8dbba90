/-! the relation behind a making; there is a free place -/
section RC9
variable {n nk nf : Nat} {run : Prop} {σ τ : St} {ad fr ro : Nat → Nat} {bs re ns rl so cc zs zc o : Nat}
theorem free_ex (h : RH n nk nf run σ τ ad fr ro bs re ns rl so cc zs zc) (hfit : 1 ≤ ns - re) : ∃ o, o < 240 ∧ τ.2 6 o = 0 := by
  obtain ⟨⟨hn1, hn2, hf6, hK⟩, hG, hO, hD, hF, hR, hS, hC⟩ := h
  obtain ⟨g1, g2, g3, g4, g5, g6, g7, g8, g9, g10, g11⟩ := hG
  refine Classical.byContradiction fun hno => ?_
  have hall : ∀ o, o < 240 → τ.2 6 o ≠ 0 := fun o ho e => hno ⟨o, ho, e⟩
  have hpos : ∀ o, o < 240 → ad o < 2 * n ∧ ad o ≠ re := by
    intro o ho
    obtain ⟨oa, oT, -, o1, o2, o3, -⟩ := hO o ho (hall o ho)
    have hs := sz_le hK oT
    rcases oa with h | h | h
    · have := o1 h; omega
    · have := o2 h; omega
    · have := o3 h; omega
  obtain ⟨i, j, h1, h2, h3⟩ := pigeon 239 (fun o => if re < ad o then ad o - 1 else ad o) (fun i hi => by
    have := hpos i (by omega)
    show (if re < ad i then ad i - 1 else ad i) < 239
    split <;> omega)
  have hi := hpos i (by omega)
  have hj := hpos j (by omega)
  have he : ad i = ad j := by
    split at h3 <;> split at h3 <;> omega
  have hd := hD i j (by omega) (by omega) (hall i (by omega)) (hall j (by omega)) (by omega)
  have hs1 := sz_le hK (hO i (by omega) (hall i (by omega))).2.1
  have hs2 := sz_le hK (hO j (by omega) (hall j (by omega))).2.1
  omega
theorem newc_hd {c : Nat → Int32} {a r i : Nat} {hd : Int32} : newc c a hd r i a = hd := if_pos rfl
theorem newc_in {c : Nat → Int32} {a r i x : Nat} {hd : Int32} (h1 : 1 ≤ x) (h2 : x < i) : newc c a hd r i (a + x) = if x ≤ r then -1 else 0 := by
  unfold newc
  rw [if_neg (show ¬ a + x = a by omega), if_pos (show a < a + x ∧ a + x < a + i by omega)]
  by_cases h : x ≤ r
  · rw [if_pos h, if_pos (show a + x ≤ a + r by omega)]
  · rw [if_neg h, if_neg (show ¬ a + x ≤ a + r by omega)]
theorem newc_out {c : Nat → Int32} {a r i y : Nat} {hd : Int32} (hi : 1 ≤ i) (h : y < a ∨ a + i ≤ y) : newc c a hd r i y = c y := by
  unfold newc
  rw [if_neg (show ¬ y = a by omega), if_neg (show ¬ (a < y ∧ y < a + i) by omega)]
theorem RH_create (h : RH n nk nf True σ τ ad fr ro bs re ns rl so cc so cc) (ho : o < 240) (hfree : τ.2 6 o = 0) {kv mv : Int32} {τ1 : Nat → Int32} (hT : ObT (τ1, crA τ o kv mv) nk nf o) (hfit : szN (τ1, crA τ o kv mv) o ≤ ns - re)
    (f0 : τ1 0 = τ.1 0) (f5 : τ1 5 = τ.1 5 + nI (szN (τ1, crA τ o kv mv) o)) (f6 : τ1 6 = τ.1 6) (f7 : τ1 7 = τ.1 7) (f8 : τ1 8 = τ.1 8) {σ' : St}
    (e9 : σ'.1 9 = σ.1 9) (e12 : σ'.1 12 = σ.1 12) (e13 : σ'.1 13 = σ.1 13) (e14 : σ'.1 14 = σ.1 14) (e15 : σ'.1 15 = σ.1 15) (e16 : σ'.1 16 = σ.1 16) (e17 : σ'.1 17 = nI (ns - szN (τ1, crA τ o kv mv) o)) (ec : σ'.2 10 = newc (σ.2 10) (ns - szN (τ1, crA τ o kv mv) o) (nI (hdN (idN (τ1, crA τ o kv mv) o) (nrN (τ1, crA τ o kv mv) o) (niN (τ1, crA τ o kv mv) o))) (nrN (τ1, crA τ o kv mv) o) (szN (τ1, crA τ o kv mv) o)) :
    RH n nk nf True σ' (τ1, crA τ o kv mv) (put ad o (ns - szN (τ1, crA τ o kv mv) o)) fr ro bs re (ns - szN (τ1, crA τ o kv mv) o) rl so cc so cc := by
  obtain ⟨⟨hn1, hn2, hf6, hK⟩, hG, hO, hD, hF, hR, hS, hC⟩ := h
  have hC := hC trivial
  obtain ⟨g1, g2, g3, g4, g5, g6, g7, g8, g9, g10, g11⟩ := hG
  have hK' : KdT (τ1, crA τ o kv mv) nk := hK
  have hs := sz_le hK' hT
  have hnr := ob_nr hK' hT
  have hsz : szN (τ1, crA τ o kv mv) o = 1 + nrN (τ1, crA τ o kv mv) o + niN (τ1, crA τ o kv mv) o := rfl
  have a6 : ∀ p, p ≠ o → (τ1, crA τ o kv mv).2 6 p = τ.2 6 p := fun p hp => by show upd (τ.2 6) o 1 p = _; exact upd_n hp
  have a6o : (τ1, crA τ o kv mv).2 6 o = 1 := by show upd (τ.2 6) o 1 o = _; exact upd_s
  have a7 : ∀ p, p ≠ o → (τ1, crA τ o kv mv).2 7 p = τ.2 7 p := fun p hp => by show upd (τ.2 7) o kv p = _; exact upd_n hp
  have a8 : ∀ p, p ≠ o → (τ1, crA τ o kv mv).2 8 p = τ.2 8 p := fun p hp => by show upd (τ.2 8) o mv p = _; exact upd_n hp
  have a9 : ∀ p j, p ≠ o → j < 4 → (τ1, crA τ o kv mv).2 9 (4 * p + j) = τ.2 9 (4 * p + j) := fun p j hp hj => by
    show fill (τ.2 9) o 4 (-1) (4 * p + j) = _; unfold fill; rw [if_neg (by omega)]
  have a10 : ∀ p j, p ≠ o → j < 4 → (τ1, crA τ o kv mv).2 10 (4 * p + j) = τ.2 10 (4 * p + j) := fun p j hp hj => by
    show fill (τ.2 10) o 4 0 (4 * p + j) = _; unfold fill; rw [if_neg (by omega)]
  have a9o : ∀ j, j < 4 → (τ1, crA τ o kv mv).2 9 (4 * o + j) = -1 := fun j hj => by
    show fill (τ.2 9) o 4 (-1) (4 * o + j) = _; unfold fill; rw [if_pos (by omega)]
  have a10o : ∀ j, j < 4 → (τ1, crA τ o kv mv).2 10 (4 * o + j) = 0 := fun j hj => by
    show fill (τ.2 10) o 4 0 (4 * o + j) = _; unfold fill; rw [if_pos (by omega)]
  have hnrp : ∀ p, p ≠ o → nrN (τ1, crA τ o kv mv) p = nrN τ p := fun p hp => by unfold nrN; rw [a7 p hp]; rfl
  have hnip : ∀ p, p ≠ o → niN (τ1, crA τ o kv mv) p = niN τ p := fun p hp => by unfold niN; rw [a7 p hp]; rfl
  have hszp : ∀ p, p ≠ o → szN (τ1, crA τ o kv mv) p = szN τ p := fun p hp => by unfold szN; rw [hnrp p hp, hnip p hp]
  have hidp : ∀ p, p ≠ o → idN (τ1, crA τ o kv mv) p = idN τ p := fun p hp => by unfold idN; rw [a7 p hp, a8 p hp]
  have hObp : ∀ p, p ≠ o → ObT τ nk nf p → ObT (τ1, crA τ o kv mv) nk nf p := fun p hp hh => by unfold ObT at hh ⊢; rw [a7 p hp, a8 p hp]; exact hh
  have hK2 := hK'
  have b0 : (τ1, crA τ o kv mv).1 0 = τ.1 0 := f0
  have b5 : (τ1, crA τ o kv mv).1 5 = τ.1 5 + nI (szN (τ1, crA τ o kv mv) o) := f5
  have b6 : (τ1, crA τ o kv mv).1 6 = τ.1 6 := f6
  have b7 : (τ1, crA τ o kv mv).1 7 = τ.1 7 := f7
  have b8 : (τ1, crA τ o kv mv).1 8 = τ.1 8 := f8
  have b11 : (τ1, crA τ o kv mv).2 11 = τ.2 11 := rfl
  generalize (τ1, crA τ o kv mv) = τ' at *
  have hro : ∀ i, i < rl → ro i ≠ o := fun i hi e => by
    have := (hR.1 i hi).2.1
    rw [e, hfree] at this; exact absurd this (by decide)
  have hsum : ∀ i, i ≤ rl → sumTo (rsz τ' ro) i = sumTo (rsz τ ro) i := fun i hi => sumTo_congr i (fun k hk => by unfold rsz; exact hszp _ (hro k (by omega)))
  have hkeep : ∀ y, y < ns - szN τ' o ∨ ns ≤ y → σ'.2 10 y = σ.2 10 y := fun y hy => by rw [ec]; exact newc_out (by omega) (by omega)
  have hkp : ∀ p, p < 240 → τ.2 6 p ≠ 0 → ∀ y, ad p ≤ y → y < ad p + szN τ p → σ'.2 10 y = σ.2 10 y := by
    intro p hp hpa y h1 h2
    obtain ⟨pa, pT, -, p1, p2, p3, -⟩ := hO p hp hpa
    refine hkeep y ?_
    rcases pa with h | h | h
    · have := p1 h; omega
    · have := p2 h; omega
    · have := p3 h; omega
  have hrf : ∀ p j v, p ≠ o → j < 4 → RefOK τ ad fr p j v → RefOK τ' (put ad o (ns - szN τ' o)) fr p j v := by
    intro p j v hp hj hv
    unfold RefOK at hv ⊢
    rw [a9 p j hp hj]
    rcases hv with hv | ⟨t, t1, t2, t3, t4, t5⟩
    · exact Or.inl hv
    · have hto : t ≠ o := fun e => t3 (by rw [e]; exact hfree)
      refine Or.inr ⟨t, t1, t2, by rw [a6 t hto]; exact t3, by rw [a7 t hto, a7 p hp]; exact t4, ?_⟩
      rw [put_n hto, a6 t hto]; exact t5
  have hcl : ∀ p j v, p ≠ o → j < 4 → Clean τ ad p j v → Clean τ' (put ad o (ns - szN τ' o)) p j v := by
    intro p j v hp hj hv
    unfold Clean at hv ⊢
    rw [a9 p j hp hj]
    rcases hv with hv | ⟨t, t1, t2, t3, t4⟩
    · exact Or.inl hv
    · have hto : t ≠ o := fun e => by rw [e, hfree] at t3; exact absurd t3 (by decide)
      exact Or.inr ⟨t, t1, t2, by rw [a6 t hto]; exact t3, by rw [put_n hto]; exact t4⟩
  refine ⟨⟨hn1, hn2, hf6, hK2⟩, ?_, ?_, ?_, ?_, ?_, ?_, ?_⟩
  · refine ⟨g1, by rw [e12]; exact g2, by rw [e13]; exact g3, e17, by rw [e9]; exact g5, by rw [b0]; exact g6, g7, by omega, by omega, ?_, by rw [b6]; exact g11⟩
    rw [b5, g10, nI_add]; congr 1; omega
  · intro p hp hpa
    by_cases hpo : p = o
    · subst hpo
      unfold HO1
      rw [put_s, a6o, ec]
      refine ⟨Or.inl rfl, hT, newc_hd, fun _ => ⟨Nat.le_refl _, by omega⟩, fun z => absurd z (by decide), fun z => absurd z (by decide), ?_, ?_⟩
      · intro j hj
        rw [show ns - szN τ' p + 1 + nrN τ' p + j = ns - szN τ' p + (1 + nrN τ' p + j) by omega, newc_in (by omega) (by omega), if_neg (by omega), a10o j (by omega)]
      · intro j hj
        rw [show ns - szN τ' p + 1 + j = ns - szN τ' p + (1 + j) by omega, newc_in (by omega) (by omega), if_pos (by omega)]
        exact Or.inl ⟨a9o j (by omega), rfl⟩
    · rw [a6 p hpo] at hpa
      obtain ⟨pa, pT, pH, p1, p2, p3, pI, pR⟩ := hO p hp hpa
      have hps := sz_le hK pT
      have hpn := ob_nr hK pT
      have hpz : szN τ p = 1 + nrN τ p + niN τ p := rfl
      unfold HO1
      rw [put_n hpo, a6 p hpo, hnrp p hpo, hnip p hpo, hszp p hpo, hidp p hpo]
      refine ⟨pa, hObp p hpo pT, ?_, ?_, p2, p3, ?_, ?_⟩
      · rw [hkp p hp hpa _ (Nat.le_refl _) (by omega)]; exact pH
      · intro h; have := p1 h; exact ⟨by omega, this.2⟩
      · intro j hj
        rw [hkp p hp hpa _ (by omega) (by omega), a10 p j hpo (by omega)]; exact pI j hj
      · intro j hj
        rw [hkp p hp hpa _ (by omega) (by omega)]; exact hrf p j _ hpo (by omega) (pR j hj)
  · intro p q hp hq hpa hqa hpq
    have key : ∀ q, q < 240 → q ≠ o → τ.2 6 q ≠ 0 → ns - szN τ' o + szN τ' o ≤ ad q ∨ ad q + szN τ q ≤ ns - szN τ' o := by
      intro q hq hqo hqa
      obtain ⟨qa, qT, -, q1, q2, q3, -⟩ := hO q hq hqa
      have hqs := sz_le hK qT
      rcases qa with h | h | h
      · have := q1 h; omega
      · have := q2 h; omega
      · have := q3 h; omega
    by_cases hpo : p = o
    · subst hpo
      rw [a6 q (Ne.symm hpq)] at hqa
      rw [put_s, put_n (Ne.symm hpq), hszp q (Ne.symm hpq)]
      exact key q hq (Ne.symm hpq) hqa
    · rw [a6 p hpo] at hpa
      by_cases hqo : q = o
      · subst hqo
        rw [put_s, put_n hpo, hszp p hpo]
        have := key p hp hpo hpa
        omega
      · rw [a6 q hqo] at hqa
        rw [put_n hpo, put_n hqo, hszp p hpo, hszp q hqo]
        exact hD p q hp hq hpa hqa hpq
  · intro p hp hpa
    have hpo : p ≠ o := fun e => by rw [e, a6o] at hpa; exact absurd hpa (by decide)
    rw [a6 p hpo] at hpa
    obtain ⟨f1, f2, f3, f4⟩ := hF p hp hpa
    rw [put_n hpo]
    refine ⟨f1, f2, ?_, ?_⟩
    · rw [hkeep _ (by omega)]; exact f3
    · intro q hq hqa
      have hqo : q ≠ o := fun e => by rw [e, a6o] at hqa; exact absurd hqa (by decide)
      rw [a6 q hqo] at hqa
      rw [put_n hqo, hszp q hqo]; exact f4 q hq hqa
  · refine ⟨?_, ?_, ?_⟩
    · intro i hi
      rw [a6 _ (hro i hi), b11, put_n (hro i hi), hsum i (by omega)]; exact hR.1 i hi
    · rw [hsum rl (Nat.le_refl _)]; exact hR.2.1
    · intro p hp hpa
      have hpo : p ≠ o := fun e => by rw [e, a6o] at hpa; exact absurd hpa (by decide)
      rw [a6 p hpo] at hpa
      exact hR.2.2 p hp hpa
  · obtain ⟨s1, s2, s3, s4, s5, s6, s7⟩ := hS
    refine ⟨s1, ?_, ?_, by rw [b7]; exact s4, by rw [b8]; exact s5, ?_, ?_⟩
    · rcases s2 with h | h
      · exact Or.inl h
      · exact Or.inr ⟨h.1, by rw [hszp _ (hro so h.1)]; exact h.2⟩
    · rw [hsum so s1, e14]; exact s3
    · intro h; rw [hsum so s1, e15]; exact s6 h
    · intro h
      have hlt : so < rl := by rcases s2 with h' | h' <;> omega
      rw [hsum so s1, hsum (so + 1) (by omega), e15, e16, hnrp _ (hro so hlt)]; exact s7 h
  · intro _
    obtain ⟨c0, c1, c2⟩ := hC
    refine ⟨c0, ?_, ?_⟩
    · intro p hp hpa j hj
      by_cases hpo : p = o
      · subst hpo
        rw [put_s, ec, show ns - szN τ' p + 1 + j = ns - szN τ' p + (1 + j) by omega, newc_in (by omega) (by omega), if_pos (by omega)]
        exact Or.inl ⟨a9o j (by omega), rfl⟩
      · rw [a6 p hpo] at hpa
        rw [hnrp p hpo] at hj
        have hpa' : τ.2 6 p ≠ 0 := by rw [hpa]; decide
        have hpn := ob_nr hK (hO p hp hpa').2.1
        have hpz : szN τ p = 1 + nrN τ p + niN τ p := rfl
        rw [put_n hpo, hkp p hp hpa' _ (by omega) (by omega)]
        exact hcl p j _ hpo (by omega) (c1 p hp hpa j hj)
    · intro i hi j hj hd
      have hio := hro i hi
      have hi2 := hR.1 i hi
      rw [hnrp _ hio] at hj
      have hpa' : τ.2 6 (ro i) ≠ 0 := by rw [hi2.2.1]; decide
      have hpn := ob_nr hK (hO (ro i) hi2.1 hpa').2.1
      have hpz : szN τ (ro i) = 1 + nrN τ (ro i) + niN τ (ro i) := rfl
      rw [put_n hio, hkp (ro i) hi2.1 hpa' _ (by omega) (by omega)]
      exact hcl (ro i) j _ hio (by omega) (c2 i hi j hj hd)
end RC9
