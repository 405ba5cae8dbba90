/-! reading a ref -/
def mvX (σ : St) (a re s : Nat) : St := (upd (upd σ.1 13 (nI (re + s))) 19 (σ.1 19 + nI s), va_up (va_up σ.2 10 (va_cpy (σ.2 10) (σ.2 10) a re s)) 10 (upd (va_cpy (σ.2 10) (σ.2 10) a re s) a ((-1 : Int32) - nI re)))
def EvX (σ σ' : St) : Prop := (∀ j, j ≠ 13 → j ≠ 19 → j ≠ 20 → σ'.1 j = σ.1 j) ∧ ∀ k, k ≠ 10 → σ'.2 k = σ.2 k
def EvM (τ τ' : St) : Prop := (∀ j, j ≠ 5 → j ≠ 6 → j ≠ 12 → j ≠ 16 → τ'.1 j = τ.1 j) ∧ (∀ k, k ≠ 6 → k ≠ 11 → τ'.2 k = τ.2 k) ∧ (∀ p, τ.2 6 p ≠ 3 → τ'.2 6 p = τ.2 6 p) ∧ ∀ p, τ.2 6 p ≠ 0 → τ'.2 6 p ≠ 0
theorem EvX.rf (σ : St) : EvX σ σ := ⟨fun _ _ _ _ => rfl, fun _ _ => rfl⟩
theorem EvM.rf (τ : St) : EvM τ τ := ⟨fun _ _ _ _ _ => rfl, fun _ _ _ => rfl, fun _ _ => rfl, fun _ h => h⟩
theorem EvX.tr {a b c : St} (h : EvX a b) (g : EvX b c) : EvX a c := ⟨fun j h1 h2 h3 => (g.1 j h1 h2 h3).trans (h.1 j h1 h2 h3), fun k hk => (g.2 k hk).trans (h.2 k hk)⟩
theorem va_up_n {α : Type} {f : Nat → α} {k j : Nat} {v : α} (h : j ≠ k) : va_up f k v j = f j := va_up_ne f v h
theorem EvX.cell (σ : St) (f : Nat → Int32) : EvX σ (σ.1, va_up σ.2 10 f) := ⟨fun _ _ _ _ => rfl, fun k hk => va_up_n hk⟩
theorem EvX.mv (σ : St) (a re s : Nat) : EvX σ (mvX σ a re s) := ⟨fun j h1 h2 _ => by show upd (upd σ.1 13 _) 19 _ j = _; rw [upd_n h2, upd_n h1], fun k hk => by show va_up (va_up σ.2 10 _) 10 _ k = _; rw [va_up_n hk, va_up_n hk]⟩
theorem EvM.mv (τ : St) (o rl u s : Nat) (h : τ.2 6 o = 3) : EvM τ (mvS τ o rl u s) := by
  refine ⟨fun j h1 h2 _ h4 => ?_, fun k h1 h2 => ?_, fun p hp => ?_, fun p hp => ?_⟩
  · show upd (upd (upd τ.1 6 _) 5 _) 16 _ j = _; rw [upd_n h4, upd_n h1, upd_n h2]
  · show va_up (va_up τ.2 6 _) 11 _ k = _; rw [va_up_n h2, va_up_n h1]
  · show upd (τ.2 6) o 2 p = _; rw [upd_n (fun e => hp (by rw [e]; exact h))]
  · show upd (τ.2 6) o 2 p ≠ 0
    by_cases e : p = o
    · rw [e, upd_s]; decide
    · rw [upd_n e]; exact hp
section RD
variable {n nk nf : Nat} {run : Prop} {σ τ : St} {ad fr ro : Nat → Nat} {bs re ns rl so cc zs zc o j : Nat}
theorem rl_lt (h : RH n nk nf run σ τ ad fr ro bs re ns rl so cc zs zc) {s : Nat} (hs : 1 ≤ s) (hfit : n - (ns - re) + s ≤ n) : rl < 120 := by
  obtain ⟨⟨hn1, hn2, hf6, hK⟩, hG, hO, hD, hF, hR, hS, hC⟩ := h
  obtain ⟨g1, g2, g3, g4, g5, g6, g7, g8, g9, g10, g11⟩ := hG
  have := sumTo_ge (f := rsz τ ro) rl (fun i hi => by
    have h1 := hR.1 i hi
    exact (sz_le hK (hO (ro i) h1.1 (by rw [h1.2.1]; decide)).2.1).1)
  have h2 := hR.2.1
  omega
/-- the reference's read, once the age is known -/
theorem m_read0 {x : Int32} {t : Nat} (hg : ix x 960) (hne : ¬ τ.2 9 x.toNatClampNeg = -1) (ht : τ.2 9 x.toNatClampNeg = nI t) (h240 : t < 240) : fMod_read τ x = if τ.2 6 t = 3 then (fMod_move τ (nI t)).bind (fun p => if p.1 12 = 0 then some (1, p) else some (0, p)) else (if τ.1 12 = 0 then some (1, τ) else some (0, τ)) := by
  have hgt : ix (τ.2 9 x.toNatClampNeg) 240 := by rw [ht]; exact ix_n h240 (by omega)
  have e : (τ.2 9 x.toNatClampNeg).toNatClampNeg = t := by rw [ht]; exact nI_tc (by omega)
  unfold fMod_read
  rw [gd hg, if_neg hne, gd hg, gd hgt]
  by_cases h3 : τ.2 6 t = 3
  · rw [if_pos (by rw [e]; exact h3), if_pos h3, gd hg, ht]
  · rw [if_neg (by rw [e]; exact h3), if_neg h3]
theorem m_readNone {x : Int32} (hg : ix x 960) (hne : τ.2 9 x.toNatClampNeg = -1) : fMod_read τ x = if τ.1 12 = 0 then some (1, τ) else some (0, τ) := by
  unfold fMod_read
  rw [gd hg, if_pos hne]
theorem bring_sim (h : RH n nk nf run σ τ ad fr ro bs re ns rl so cc zs zc) (hf : σ.1 20 = 0) (hst : τ.1 12 = 0) (hw : σ.1 19 = τ.1 16) (hoj : 4 * o + j < 960) {v : Int32} (hv : RefOK τ ad fr o j v) :
    ∃ r σ' b τ' ad' fr' ro' re' rl', fRoom_bring (2 * n) σ v = some (r, σ') ∧ fMod_read τ (nI (4 * o + j)) = some (b, τ') ∧ EvX σ σ' ∧ EvM τ τ' ∧ (∀ p, τ.2 6 p ≠ 3 → ad' p = ad p) ∧ ((∀ i, i < rl → ro' i = ro i) ∧ rl ≤ rl') ∧ RH n nk nf run σ' τ' ad' fr' ro' bs re' ns rl' so cc zs zc ∧ σ'.1 19 = τ'.1 16 ∧
      ((σ'.1 20 = 1 ∧ τ'.1 12 = 3 ∧ b = 0 ∧ r ≠ -1 ∧ RefOK τ' ad' fr' o j r ∧ r = v ∧ σ'.2 = σ.2) ∨ (σ'.1 20 = 0 ∧ τ'.1 12 = 0 ∧ b = 1 ∧ RefOK τ' ad' fr' o j r ∧ Clean τ' ad' o j r)) := by
  have h0 := h
  obtain ⟨⟨hn1, hn2, hf6, hK⟩, hG, hO, hD, hF, hR, hS, hC⟩ := h
  obtain ⟨g1, g2, g3, g4, g5, g6, g7, g8, g9, g10, g11⟩ := hG
  have hg : ix (nI (4 * o + j)) 960 := ix_n hoj (by omega)
  have hc := nI_tc (a := 4 * o + j) (by omega)
  rcases hv with ⟨hp, rfl⟩ | ⟨t, t1, t2, t3, t4, t5⟩
  · refine ⟨-1, σ, 1, τ, ad, fr, ro, re, rl, x_bringNone (n := n) (bs := bs), ?_, EvX.rf σ, EvM.rf τ, fun _ _ => rfl, ⟨fun _ _ => rfl, Nat.le_refl _⟩, h0, hw, Or.inr ⟨hf, hst, rfl, Or.inl ⟨hp, rfl⟩, Or.inl ⟨hp, rfl⟩⟩⟩
    rw [m_readNone hg (by rw [hc]; exact hp), if_pos hst]
  · have hne : ¬ τ.2 9 (4 * o + j) = -1 := by rw [t2]; exact nI_m1 (by omega)
    obtain ⟨ta, tT, tH, tp1, tp2, tp3, -⟩ := hO t t1 t3
    have hts := sz_le hK tT
    have hnr := ob_nr hK tT
    have hid := ob_id hK hf6 tT
    have hM : fMod_read τ (nI (4 * o + j)) = if τ.2 6 t = 3 then (fMod_move τ (nI t)).bind (fun p => if p.1 12 = 0 then some (1, p) else some (0, p)) else (if τ.1 12 = 0 then some (1, τ) else some (0, τ)) := m_read0 hg (by rw [hc]; exact hne) (by rw [hc]; exact t2) t1
    by_cases h3 : τ.2 6 t = 3
    · -- old
      have hp3 := tp3 h3
      have hva : v = nI (ad t) := by
        rcases t5 with t5 | ⟨t5, -⟩
        · exact t5
        · rw [h3] at t5; exact absurd t5 (by decide)
      have hhd : isHd (σ.2 10 (ad t)) (idN τ t) (nrN τ t) (niN τ t) := ⟨hid, hnr.1, hnr.2, tH⟩
      have hge : (0 : Int32) ≤ σ.2 10 (ad t) := by rw [tH]; exact nI_ge0 (by unfold hdN; omega)
      have hszd : 1 + nrN τ t + niN τ t = szN τ t := rfl
      rw [hM, if_pos h3, m_move t1 hK tT g6 g10 g11 hn2 (by omega) (fun hh => rl_lt h0 hts.1 hh)]
      by_cases hfit : szN τ t ≤ ns - re
      · refine ⟨nI re, mvX σ (ad t) re (szN τ t), 1, mvS τ t rl (n - (ns - re)) (szN τ t), put ad t re, put fr t (ad t), put ro rl t, re + szN τ t, rl + 1, ?_, ?_, EvX.mv σ _ _ _, EvM.mv τ _ _ _ _ h3, ?_, ⟨fun i hi => put_n (by omega), by omega⟩, ?_, ?_, Or.inr ⟨hf, hst, rfl, ?_, ?_⟩⟩
        · rw [hva, x_bringOut g2 g5 (by omega) (by omega) (by omega) (by omega), if_pos hge]
          exact x_moveOld (by omega) hhd g3 g4 g8 (by omega) (by omega) hfit
        · rw [if_pos (show n - (ns - re) + szN τ t ≤ n by omega), Option.bind_some]
          show (if τ.1 12 = 0 then some (1, _) else _) = _
          rw [if_pos hst]
        · intro p hp; exact put_n (fun e => hp (by rw [e]; exact h3))
        · exact RH_move (σ1 := (mvX σ (ad t) re (szN τ t)).1) (α := (mvX σ (ad t) re (szN τ t)).2) h0 t1 h3 hfit rfl rfl rfl rfl rfl rfl rfl rfl
        · show σ.1 19 + nI (szN τ t) = τ.1 16 + nI (szN τ t)
          rw [hw]
        · refine Or.inr ⟨t, t1, t2, ?_, t4, Or.inl (by rw [put_s])⟩
          rw [mv_age, if_pos rfl]; decide
        · refine Or.inr ⟨t, t1, t2, Or.inr ?_, by rw [put_s]⟩
          rw [mv_age, if_pos rfl]
      · refine ⟨nI (ad t), (upd σ.1 20 1, σ.2), 0, (upd τ.1 12 3, τ.2), ad, fr, ro, re, rl, ?_, ?_, ⟨fun j _ _ h => upd_n h, fun _ _ => rfl⟩, ⟨fun j _ _ h _ => upd_n h, fun _ _ _ => rfl, fun _ _ => rfl, fun _ h => h⟩, fun _ _ => rfl, ⟨fun _ _ => rfl, Nat.le_refl _⟩, h0, hw, Or.inl ⟨rfl, rfl, rfl, nI_m1 (by omega), Or.inr ⟨t, t1, t2, t3, t4, Or.inl rfl⟩, hva.symm, rfl⟩⟩
        · rw [hva, x_bringOut g2 g5 (by omega) (by omega) (by omega) (by omega), if_pos hge]
          exact x_moveFull (by omega) hhd g3 g4 g8 (by omega) (by omega) hfit
        · rw [if_neg (show ¬ n - (ns - re) + szN τ t ≤ n by omega), Option.bind_some]
          show (if (3 : Int32) = 0 then _ else some ((0 : Int32), _)) = _
          rw [if_neg (by decide)]
    · -- here
      have hX : fRoom_bring (2 * n) σ v = some (nI (ad t), σ) := by
        rcases t5 with t5 | ⟨t5, t6⟩
        · rw [t5]
          refine x_bringHere g2 g5 ?_ ?_ (by omega)
          · rcases ta with h | h | h
            · have := tp1 h; omega
            · have := tp2 h; omega
            · exact absurd h h3
          · rcases ta with h | h | h
            · have := tp1 h; omega
            · have := tp2 h; omega
            · exact absurd h h3
        · obtain ⟨f1, f2, f3, -⟩ := hF t t1 t5
          have := tp2 t5
          rw [t6, x_bringOut g2 g5 (by omega) (by omega) (by omega) (by omega), if_neg (by rw [f3]; exact fw_neg (by omega))]
          exact x_movedTo (by omega) (by omega) (by omega) f3
      have hage : τ.2 6 t = 1 ∨ τ.2 6 t = 2 := by
        rcases ta with h | h | h
        · exact Or.inl h
        · exact Or.inr h
        · exact absurd h h3
      refine ⟨nI (ad t), σ, 1, τ, ad, fr, ro, re, rl, hX, ?_, EvX.rf σ, EvM.rf τ, fun _ _ => rfl, ⟨fun _ _ => rfl, Nat.le_refl _⟩, h0, hw, Or.inr ⟨hf, hst, rfl, Or.inr ⟨t, t1, t2, t3, t4, Or.inl rfl⟩, Or.inr ⟨t, t1, t2, hage, rfl⟩⟩⟩
      rw [hM, if_neg h3, if_pos hst]
/-- readRef and read, of an object that is here -/
theorem read_sim (h : RH n nk nf run σ τ ad fr ro bs re ns rl so cc zs zc) (hf : σ.1 20 = 0) (hst : τ.1 12 = 0) (hw : σ.1 19 = τ.1 16) (ho : o < 240) (ha : τ.2 6 o = 1 ∨ τ.2 6 o = 2) (hj : j < nrN τ o) :
    ∃ r σ' b τ' ad' fr' ro' re' rl', fRoom_readRef (2 * n) σ (nI (ad o)) (nI j) = some (r, σ') ∧ fMod_read τ (nI (4 * o + j)) = some (b, τ') ∧ EvX σ σ' ∧ EvM τ τ' ∧ (∀ p, τ.2 6 p ≠ 3 → ad' p = ad p) ∧ RH n nk nf run σ' τ' ad' fr' ro' bs re' ns rl' so cc zs zc ∧ σ'.1 19 = τ'.1 16 ∧
      ((σ'.1 20 = 1 ∧ τ'.1 12 = 3 ∧ b = 0 ∧ r ≠ -1) ∨ (σ'.1 20 = 0 ∧ τ'.1 12 = 0 ∧ b = 1 ∧ RefOK τ' ad' fr' o j r ∧ Clean τ' ad' o j r)) := by
  have h0 := h
  obtain ⟨⟨hn1, hn2, hf6, hK⟩, hG, hO, hD, hF, hR, hS, hC⟩ := h
  have hlive : τ.2 6 o ≠ 0 := by rcases ha with h | h <;> rw [h] <;> decide
  have hno3 : τ.2 6 o ≠ 3 := by rcases ha with h | h <;> rw [h] <;> decide
  obtain ⟨oa, oT, oH, o1, o2, o3, oI, oR⟩ := hO o ho hlive
  obtain ⟨g1, g2, g3, g4, g5, g6, g7, g8, g9, g10, g11⟩ := hG
  have hs := sz_le hK oT
  have hnr := ob_nr hK oT
  have hsz : szN τ o = 1 + nrN τ o + niN τ o := rfl
  have hb : ad o + szN τ o ≤ 2 * n := by
    rcases ha with h | h
    · have := o1 h; omega
    · have := o2 h; omega
  obtain ⟨r, σ', b, τ', ad', fr', ro', re', rl', hX, hM, eX, eM, hsame, -, hRH, hw', hcase⟩ := bring_sim h0 hf hst hw (by omega) (oR j hj)
  have ead : ad' o = ad o := hsame o hno3
  have eage : τ'.2 6 o = τ.2 6 o := eM.2.2.1 o hno3
  have enr : nrN τ' o = nrN τ o := by unfold nrN krN; rw [eM.2.1 7 (by decide) (by decide), eM.2.1 0 (by decide) (by decide)]
  have esz : szN τ' o = szN τ o := by unfold szN; rw [enr]; unfold niN kiN; rw [eM.2.1 7 (by decide) (by decide), eM.2.1 1 (by decide) (by decide)]
  have hrok : RefOK τ' ad' fr' o j r := by
    rcases hcase with h | h
    · exact h.2.2.2.2.1
    · exact h.2.2.2.1
  refine ⟨r, (σ'.1, va_up σ'.2 10 (upd (σ'.2 10) (ad o + 1 + j) r)), b, τ', ad', fr', ro', re', rl', ?_, hM, eX.tr (EvX.cell σ' _), eM, hsame, ?_, hw', ?_⟩
  · unfold fRoom_readRef
    rw [nI_1, nI_add]
    have hi : ix (nI (ad o + 1 + j)) (2 * n) := ix_n (by omega) (by omega)
    have hc : (nI (ad o + 1 + j)).toNatClampNeg = ad o + 1 + j := nI_tc (by omega)
    generalize nI (ad o + 1 + j) = I at hi hc ⊢
    have e : σ.2 10 I.toNatClampNeg = σ.2 10 (ad o + 1 + j) := by rw [hc]
    rw [gd hi, e, hX, Option.bind_some, gd hi, gd hi, upd_s, hc]
  · have hRH' := hRH
    obtain ⟨-, -, hO', -⟩ := hRH'
    rcases hcase with hfull | hok
    · -- nothing has moved: the cell gets what it held
      obtain ⟨-, -, -, -, -, hrv, he⟩ := hfull
      have e2 : va_up σ'.2 10 (upd (σ'.2 10) (ad o + 1 + j) r) = σ'.2 := by
        funext k
        by_cases hk : k = 10
        · subst hk
          rw [va_up_self]
          funext y
          by_cases hy : y = ad o + 1 + j
          · subst hy; rw [upd_s, he, hrv]
          · rw [upd_n hy]
        · rw [va_up_n hk]
      rw [e2]; exact hRH
    · obtain ⟨-, -, -, hr, hcl⟩ := hok
      refine RH_write (v := r) (x := 1 + j) hRH ho (by rw [eage]; exact ha) (by omega) (by rw [esz]; omega) rfl rfl rfl rfl rfl rfl rfl ?_ rfl rfl rfl rfl rfl ⟨rfl, rfl, rfl, rfl, rfl, rfl⟩ (fun _ _ _ _ _ => rfl) (fun _ _ _ _ _ => rfl) ?_ ?_
      · show upd (σ'.2 10) (ad o + 1 + j) r = _
        rw [ead, show ad o + 1 + j = ad o + (1 + j) by omega]
      · intro i hi hix
        have : i = j := by omega
        subst this
        exact ⟨hr, fun _ => hcl⟩
      · intro i hi hix
        rw [enr] at hix
        omega
  · rcases hcase with ⟨a1, a2, a3, a4, -⟩ | ⟨a1, a2, a3, a4, a5⟩
    · exact Or.inl ⟨a1, a2, a3, a4⟩
    · exact Or.inr ⟨a1, a2, a3, a4, a5⟩
end RD
