/-! GET, PUT, LOAD, STORE -/
section OP2
variable {n nk nf op pc : Nat} {σ τ : St} {ad : Nat → Nat} {cur dl o j : Nat} {sk : Nat → Nat}
/-- a kinded object: its kind, its numbers of refs and ints -/
theorem kinded (h : Mid n nk nf op pc σ τ ad cur sk dl) {t : Nat} (ht : t < 240) (ha : τ.2 6 t ≠ 0) (hk : ¬ τ.2 7 t = -1) : ∃ k, k < nk ∧ nk ≤ 4 ∧ τ.2 7 t = nI k ∧ nrN τ t = krN τ k ∧ niN τ t = kiN τ k ∧ τ.2 0 k = nI (krN τ k) ∧ τ.2 1 k = nI (kiN τ k) ∧ krN τ k ≤ 3 ∧ kiN τ k ≤ 3 ∧ idN τ t = k := by
  obtain ⟨oT, hK, -⟩ := hp_obj h.2.1 ht ha
  rcases oT with ⟨h1, -⟩ | ⟨k, h1, h2⟩
  · exact absurd h1 hk
  · have := hK.1
    have e : (nI k).toNatClampNeg = k := nI_tc (by omega)
    refine ⟨k, h1, this, h2, ?_, ?_, (kr_le hK h1).2, (ki_le hK h1).2, (kr_le hK h1).1, (ki_le hK h1).1, ?_⟩
    · unfold nrN; rw [if_neg hk, h2, e]
    · unfold niN; rw [if_neg hk, h2, e]
    · unfold idN; rw [if_neg hk, h2, e]
/-- the first part of all four: the object is read, and is NONE, or has the part or hasn't -/
theorem acc_sim (h : Mid n nk nf op pc σ τ ad cur sk dl) {a z : Nat} (ha : a < 3) (hz : z < 3) :
    ∃ r σ' b τ' ad', fRoom_readRef (2 * n) σ (σ.1 11) (nI a) = some (r, σ') ∧ fMod_read τ (nI (4 * cur + a)) = some (b, τ') ∧ τ'.1 9 = τ.1 9 ∧ sameB τ τ' ∧ MK τ τ' ∧ σ'.1 11 = σ.1 11 ∧
      ((b = 0 ∧ fMach_hasRef (2 * n) σ' r (nI z) = some (0, σ') ∧ fMach_hasInt (2 * n) σ' r (nI z) = some (0, σ') ∧ Post n nk nf op pc σ' τ') ∨
       (b = 1 ∧ τ'.2 9 (4 * cur + a) = -1 ∧ ∃ σ2, fMach_hasRef (2 * n) σ' r (nI z) = some (0, σ2) ∧ fMach_hasInt (2 * n) σ' r (nI z) = some (0, σ2) ∧ fMod_raise τ' 1 = some (upd (upd τ'.1 10 1) 11 1, τ'.2) ∧ Post n nk nf op pc σ2 (upd (upd τ'.1 10 1) 11 1, τ'.2)) ∨
       (b = 1 ∧ Mid n nk nf op pc σ' τ' ad' cur sk dl ∧ ∃ t k, t < 240 ∧ τ'.2 9 (4 * cur + a) = nI t ∧ (τ'.2 6 t = 1 ∨ τ'.2 6 t = 2) ∧ r = nI (ad' t) ∧ k < nk ∧ nk ≤ 4 ∧ τ'.2 7 t = nI k ∧ nrN τ' t = krN τ' k ∧ niN τ' t = kiN τ' k ∧ τ'.2 0 k = nI (krN τ' k) ∧ τ'.2 1 k = nI (kiN τ' k) ∧ krN τ' k ≤ 3 ∧ kiN τ' k ≤ 3 ∧ idN τ' t = k ∧
          (z < krN τ' k → fMach_hasRef (2 * n) σ' r (nI z) = some (1, σ')) ∧ (¬ z < krN τ' k → fMach_hasRef (2 * n) σ' r (nI z) = some (0, (upd (upd σ'.1 3 1) 4 2, σ'.2))) ∧ (z < kiN τ' k → fMach_hasInt (2 * n) σ' r (nI z) = some (1, σ')) ∧ (¬ z < kiN τ' k → fMach_hasInt (2 * n) σ' r (nI z) = some (0, (upd (upd σ'.1 3 1) 4 2, σ'.2))))) := by
  obtain ⟨c1, c2, c3, c4, c5, c6, c7, c8, c9, c10⟩ := mid_cur h
  obtain ⟨r, σ', b', τ', ad', hX, hM, e11, m9, m10, sb, mk, hag, hcase⟩ := mid_read h c1 c2 (show a < nrN τ cur by omega)
  refine ⟨r, σ', b', τ', ad', by rw [c4]; exact hX, hM, m9, sb, mk, e11, ?_⟩
  rcases hcase with ⟨a1, a2, a3, a4, hP⟩ | ⟨a1, a2, a3, hMd, hcv⟩
  · refine Or.inl ⟨a3, ?_, ?_, hP⟩
    · unfold fMach_hasRef fMach_isThere
      rw [if_neg (by rw [a1]; decide), Option.bind_some]
      show (if (0 : Int32) = 0 then _ else _) = _
      rw [if_pos rfl]
    · unfold fMach_hasInt fMach_isThere
      rw [if_neg (by rw [a1]; decide), Option.bind_some]
      show (if (0 : Int32) = 0 then _ else _) = _
      rw [if_pos rfl]
  · rcases hcv with ⟨hc1, hc2⟩ | ⟨t, t1, t2, t3, t4, t5⟩
    · obtain ⟨r1, r2, r3⟩ := mid_raise hMd 1
      refine Or.inr (Or.inl ⟨a3, by rw [sb.2.2.1]; exact hc1, _, ?_, ?_, r2, r3⟩)
      · unfold fMach_hasRef fMach_isThere
        rw [if_pos a1, if_pos hc2, r1, Option.bind_some, Option.bind_some]
        show (if (0 : Int32) = 0 then _ else _) = _
        rw [if_pos rfl]
      · unfold fMach_hasInt fMach_isThere
        rw [if_pos a1, if_pos hc2, r1, Option.bind_some, Option.bind_some]
        show (if (0 : Int32) = 0 then _ else _) = _
        rw [if_pos rfl]
    · have hne : τ'.2 6 t ≠ 0 := by rcases t3 with h | h <;> rw [h] <;> decide
      have hk : ¬ τ'.2 7 t = -1 := fun e => absurd (t5.mp e).2 (by omega)
      obtain ⟨k, k1, k2, k3, k4, k5, k6, k7, k8, k9, k10⟩ := kinded hMd t1 hne hk
      obtain ⟨oT, hK, hf6, hn2, hb, hhd, -⟩ := hp_obj hMd.2.1 t1 hne
      have hrn : ¬ r = -1 := by rw [t4]; exact nI_m1 (by omega)
      have hsz : szN τ' t = 1 + nrN τ' t + niN τ' t := rfl
      have hR0 : fMach_hasRef (2 * n) σ' r (nI z) = if z < krN τ' k then some (1, σ') else some (0, (upd (upd σ'.1 3 1) 4 2, σ'.2)) := by
        unfold fMach_hasRef fMach_isThere
        rw [if_pos a1, if_neg hrn, Option.bind_some]
        show (if (1 : Int32) = 0 then _ else (fRoom_refsOf (2 * n) σ' r).bind _) = _
        rw [if_neg (by decide), t4, x_refsOf (by omega) (by omega) hhd, Option.bind_some]
        unfold fMach_hasPart
        show Option.bind (if nI z < nI (nrN τ' t) then _ else _) _ = _
        by_cases hzk : z < krN τ' k
        · rw [if_pos (show nI z < nI (nrN τ' t) by rw [nI_lt' (by omega) (by omega)]; omega), if_pos hzk, Option.bind_some]
          show (if (1 : Int32) = 0 then _ else _) = _
          rw [if_neg (by decide)]
        · rw [if_neg (show ¬ nI z < nI (nrN τ' t) by rw [nI_lt' (by omega) (by omega)]; omega), if_neg hzk]
          rfl
      have hI0 : fMach_hasInt (2 * n) σ' r (nI z) = if z < kiN τ' k then some (1, σ') else some (0, (upd (upd σ'.1 3 1) 4 2, σ'.2)) := by
        unfold fMach_hasInt fMach_isThere
        rw [if_pos a1, if_neg hrn, Option.bind_some]
        show (if (1 : Int32) = 0 then _ else (fRoom_intsOf (2 * n) σ' r).bind _) = _
        rw [if_neg (by decide), t4, x_intsOf (by omega) (by omega) hhd, Option.bind_some]
        unfold fMach_hasPart
        show Option.bind (if nI z < nI (niN τ' t) then _ else _) _ = _
        by_cases hzk : z < kiN τ' k
        · rw [if_pos (show nI z < nI (niN τ' t) by rw [nI_lt' (by omega) (by omega)]; omega), if_pos hzk, Option.bind_some]
          show (if (1 : Int32) = 0 then _ else _) = _
          rw [if_neg (by decide)]
        · rw [if_neg (show ¬ nI z < nI (niN τ' t) by rw [nI_lt' (by omega) (by omega)]; omega), if_neg hzk]
          rfl
      exact Or.inr (Or.inr ⟨a3, hMd, t, k, t1, by rw [sb.2.2.1]; exact t2, t3, t4, k1, k2, k3, k4, k5, k6, k7, k8, k9, k10, fun hh => by rw [hR0, if_pos hh], fun hh => by rw [hR0, if_neg hh], fun hh => by rw [hI0, if_pos hh], fun hh => by rw [hI0, if_neg hh]⟩)
/-- the reference's part of it: behind the first read -/
theorem m_acc {ov xv yv zv : Int32} {a : Nat} {F s0 : Int32} {b : Int32} {τ' : St} (hs : s0 = nI (4 * cur + a)) (hc : 4 * cur + a < 960) (hM : fMod_read τ (nI (4 * cur + a)) = some (b, τ')) :
    fMod_access_J30 τ ov xv yv zv F s0 = if b = 0 then some τ' else (if τ'.2 9 (4 * cur + a) = -1 then (fMod_raise τ' 1) else (if 6 < ov then (if ix (τ'.2 9 (4 * cur + a)) 240 then (if ix (τ'.2 7 (τ'.2 9 (4 * cur + a)).toNatClampNeg) 4 then fMod_access_J96 τ' ov xv yv zv F (τ'.2 9 (4 * cur + a)) (τ'.2 1 (τ'.2 7 (τ'.2 9 (4 * cur + a)).toNatClampNeg).toNatClampNeg) else none) else none) else (if ix (τ'.2 9 (4 * cur + a)) 240 then (if ix (τ'.2 7 (τ'.2 9 (4 * cur + a)).toNatClampNeg) 4 then fMod_access_J96 τ' ov xv yv zv F (τ'.2 9 (4 * cur + a)) (τ'.2 0 (τ'.2 7 (τ'.2 9 (4 * cur + a)).toNatClampNeg).toNatClampNeg) else none) else none))) := by
  have hg : ix s0 960 := by rw [hs]; exact ix_n hc (by omega)
  have he : s0.toNatClampNeg = 4 * cur + a := by rw [hs]; exact nI_tc (by omega)
  have hM' : fMod_read τ s0 = some (b, τ') := by rw [hs]; exact hM
  rw [← he]
  unfold fMod_access_J30
  rw [hM', Option.bind_some, gd hg, bnd]
theorem m_acc3 {ov xv yv zv : Int32} {a : Nat} {F : Int32} {τ' : St} {t k : Nat} (ht : t < 240) (hk : k < 4) (e1 : τ'.2 9 (4 * cur + a) = nI t) (e2 : τ'.2 7 t = nI k) :
    (if τ'.2 9 (4 * cur + a) = -1 then (fMod_raise τ' 1) else (if 6 < ov then (if ix (τ'.2 9 (4 * cur + a)) 240 then (if ix (τ'.2 7 (τ'.2 9 (4 * cur + a)).toNatClampNeg) 4 then fMod_access_J96 τ' ov xv yv zv F (τ'.2 9 (4 * cur + a)) (τ'.2 1 (τ'.2 7 (τ'.2 9 (4 * cur + a)).toNatClampNeg).toNatClampNeg) else none) else none) else (if ix (τ'.2 9 (4 * cur + a)) 240 then (if ix (τ'.2 7 (τ'.2 9 (4 * cur + a)).toNatClampNeg) 4 then fMod_access_J96 τ' ov xv yv zv F (τ'.2 9 (4 * cur + a)) (τ'.2 0 (τ'.2 7 (τ'.2 9 (4 * cur + a)).toNatClampNeg).toNatClampNeg) else none) else none))) = if 6 < ov then fMod_access_J96 τ' ov xv yv zv F (nI t) (τ'.2 1 k) else fMod_access_J96 τ' ov xv yv zv F (nI t) (τ'.2 0 k) := by
  have g1 : ix (τ'.2 9 (4 * cur + a)) 240 := by rw [e1]; exact ix_n ht (by omega)
  have he : (τ'.2 9 (4 * cur + a)).toNatClampNeg = t := by rw [e1]; exact nI_tc (by omega)
  have g2 : ix (τ'.2 7 (τ'.2 9 (4 * cur + a)).toNatClampNeg) 4 := by rw [he, e2]; exact ix_n hk (by omega)
  have he2 : (τ'.2 7 (τ'.2 9 (4 * cur + a)).toNatClampNeg).toNatClampNeg = k := by rw [he, e2]; exact nI_tc (by omega)
  rw [if_neg (by rw [e1]; exact nI_m1 (by omega)), gd g1, gd g2, gd g1, gd g2, he2, e1]
theorem pl_sb {τ' : St} (h : PlOK τ cur) (sb : sameB τ τ') (mk : MK τ τ') : PlOK τ' cur := h.same (by rw [sb.2.1]) (by rw [sb.2.2.2]) (mk.2 4 (by omega))
theorem sim5 (h : Mid n nk nf op pc σ τ ad cur sk dl) (hp : PlOK τ cur) {a b z : Nat} (ha : a < 3) (hb : b < 3) (hz : z < 3) : Sim n nk nf op pc σ τ (nI 5) (nI a) (nI b) (nI z) := by
  obtain ⟨c1, c2, c3, c4, c5, c6, c7, c8, c9, c10⟩ := mid_cur h
  obtain ⟨i1, i2, i3⟩ := m_ix c3 c1 (show a < 4 by omega)
  obtain ⟨k1, k2, k3⟩ := m_ix c3 c1 (show b < 4 by omega)
  obtain ⟨r, σ', b', τ', ad', hX, hM, m9, sb, mk, e11, hcase⟩ := acc_sim h hb hz
  have hM0 := m_acc (ov := nI 5) (xv := nI a) (yv := nI b) (zv := nI z) (F := (4 : Int32) * τ.1 9) k3 (by omega) hM
  rcases hcase with ⟨b0, h1, h2, hP⟩ | ⟨b1, hn, σ2, h1, h2, hr, hP⟩ | ⟨b1, hMd, t, k, t1, t2, t3, t4, q1, q2, q3, q4, q5, q6, q7, q8, q9, q10, f1, f2, f3, f4⟩
  · refine ⟨σ', τ', ?_, by rw [md_5, hM0, if_pos b0], hP⟩
    rw [xd_5]; unfold fMach_doGet
    rw [hX, Option.bind_some, h1, Option.bind_some]
    show (if (0 : Int32) = 0 then _ else _) = _
    rw [if_pos rfl]
  · refine ⟨σ2, _, ?_, by rw [md_5, hM0, if_neg (by rw [b1]; decide), if_pos hn]; exact hr, hP⟩
    rw [xd_5]; unfold fMach_doGet
    rw [hX, Option.bind_some, h1, Option.bind_some]
    show (if (0 : Int32) = 0 then _ else _) = _
    rw [if_pos rfl]
  · have hM1 : mDisp τ (nI 5) (nI a) (nI b) (nI z) = fMod_access_J96 τ' (nI 5) (nI a) (nI b) (nI z) ((4 : Int32) * τ.1 9) (nI t) (τ'.2 0 k) := by
      rw [md_5, hM0, if_neg (by rw [b1]; decide), m_acc3 t1 (by omega) t2 q3, if_neg (by decide)]
    by_cases hzk : z < krN τ' k
    · obtain ⟨r2, σ3, b2, τ3, ad3, hX3, hM3, e3, m93, m103, sb3, mk3, hag3, hcase3⟩ := mid_read hMd t1 t3 (show z < nrN τ' t by omega)
      obtain ⟨j1, j2, j3⟩ := o_ix t1 (show z < 4 by omega)
      have hX0 : xDisp (2 * n) σ (nI 5) (nI a) (nI b) (nI z) = if σ3.1 20 = 0 then fRoom_setRef (2 * n) σ3 (σ3.1 11) (nI a) r2 else some σ3 := by
        rw [xd_5]; unfold fMach_doGet
        rw [hX, Option.bind_some, f1 hzk, Option.bind_some]
        show (if (1 : Int32) = 0 then _ else (fRoom_readRef (2 * n) σ' r (nI z)).bind _) = _
        rw [if_neg (by decide), t4, hX3, Option.bind_some, bnd]
      have hM2 : mDisp τ (nI 5) (nI a) (nI b) (nI z) = if b2 = 0 then some τ3 else some (τ3.1, va_up τ3.2 9 (upd (τ3.2 9) (4 * cur + a) (τ'.2 9 (4 * t + z)))) := by
        rw [hM1]; unfold fMod_access_J96
        rw [if_pos (show nI z < τ'.2 0 k by rw [q6, nI_lt' (by omega) (by omega)]; exact hzk), if_pos oe5_5, j3, hM3, Option.bind_some, gd (show ix (nI (4 * t + z)) 960 from ix_n (by omega) (by omega)), gd i1, i2, nI_tc (by omega)]
        show (if b2 = 0 then some τ3 else some (τ3.1, va_up τ3.2 9 (upd (τ3.2 9) (4 * cur + a) (τ3.2 9 (4 * t + z))))) = _
        rw [sb3.2.2.1]
      rcases hcase3 with ⟨a1, a2, a3, a4, hP⟩ | ⟨a1, a2, a3, hMd3, hcv⟩
      · exact ⟨σ3, τ3, by rw [hX0, if_neg (by rw [a1]; decide)], by rw [hM2, if_pos a3], hP⟩
      · have hcv2 : CVl τ3 ad3 cur a (τ'.2 9 (4 * t + z)) r2 := by
          rcases hcv with hc | ⟨u, u1, u2, u3, u4, u5⟩
          · exact Or.inl hc
          · refine Or.inr ⟨u, u1, u2, u3, u4, ?_⟩
            refine ⟨fun e => ?_, fun e => absurd e.2 (by omega)⟩
            have := (u5.mp e).1
            rw [sb3.1, q3] at this
            exact absurd this (nI_m1 (by omega))
        obtain ⟨σ4, hX4, hM4⟩ := mid_csetR hMd3 ha hcv2
        exact ⟨σ4, _, by rw [hX0, if_pos a1]; exact hX4, by rw [hM2, if_neg (by rw [a3]; decide)], hM4.post (fun _ => pl_ref (pl_sb (pl_sb hp sb mk) sb3 mk3))⟩
    · obtain ⟨r1, r2, r3⟩ := mid_raise hMd 2
      refine ⟨_, _, ?_, ?_, r3⟩
      · rw [xd_5]; unfold fMach_doGet
        rw [hX, Option.bind_some, f2 hzk, Option.bind_some]
        show (if (0 : Int32) = 0 then _ else _) = _
        rw [if_pos rfl]
      · rw [hM1]; unfold fMod_access_J96
        rw [if_neg (show ¬ nI z < τ'.2 0 k by rw [q6, nI_lt' (by omega) (by omega)]; exact hzk), bnd]; exact r2
theorem sim6 (h : Mid n nk nf op pc σ τ ad cur sk dl) (hp : PlOK τ cur) {a b z : Nat} (ha : a < 3) (hb : b < 3) (hz : z < 3) : Sim n nk nf op pc σ τ (nI 6) (nI a) (nI b) (nI z) := by
  obtain ⟨c1, c2, c3, c4, c5, c6, c7, c8, c9, c10⟩ := mid_cur h
  obtain ⟨i1, i2, i3⟩ := m_ix c3 c1 (show a < 4 by omega)
  obtain ⟨k1, k2, k3⟩ := m_ix c3 c1 (show b < 4 by omega)
  obtain ⟨r, σ', b', τ', ad', hX, hM, m9, sb, mk, e11, hcase⟩ := acc_sim h ha hz
  have hM0 := m_acc (ov := nI 6) (xv := nI a) (yv := nI b) (zv := nI z) (F := (4 : Int32) * τ.1 9) i3 (by omega) hM
  rcases hcase with ⟨b0, h1, h2, hP⟩ | ⟨b1, hn, σ2, h1, h2, hr, hP⟩ | ⟨b1, hMd, t, k, t1, t2, t3, t4, q1, q2, q3, q4, q5, q6, q7, q8, q9, q10, f1, f2, f3, f4⟩
  · refine ⟨σ', τ', ?_, by rw [md_6, hM0, if_pos b0], hP⟩
    rw [xd_6]; unfold fMach_doPut
    rw [hX, Option.bind_some, h1, Option.bind_some]
    show (if (0 : Int32) = 0 then _ else _) = _
    rw [if_pos rfl]
  · refine ⟨σ2, _, ?_, by rw [md_6, hM0, if_neg (by rw [b1]; decide), if_pos hn]; exact hr, hP⟩
    rw [xd_6]; unfold fMach_doPut
    rw [hX, Option.bind_some, h1, Option.bind_some]
    show (if (0 : Int32) = 0 then _ else _) = _
    rw [if_pos rfl]
  · have hM1 : mDisp τ (nI 6) (nI a) (nI b) (nI z) = fMod_access_J96 τ' (nI 6) (nI a) (nI b) (nI z) ((4 : Int32) * τ.1 9) (nI t) (τ'.2 0 k) := by
      rw [md_6, hM0, if_neg (by rw [b1]; decide), m_acc3 t1 (by omega) t2 q3, if_neg (by decide)]
    by_cases hzk : z < krN τ' k
    · obtain ⟨d1, d2, d3, d4, d5, d6, d7, d8, d9, d10⟩ := mid_cur hMd
      obtain ⟨r2, σ3, b2, τ3, ad3, hX3, hM3, e3, m93, m103, sb3, mk3, hag3, hcase3⟩ := mid_read hMd d1 d2 (show b < nrN τ' cur by omega)
      obtain ⟨j1, j2, j3⟩ := o_ix t1 (show z < 4 by omega)
      have hX0 : xDisp (2 * n) σ (nI 6) (nI a) (nI b) (nI z) = if σ3.1 20 = 0 then fRoom_setRef (2 * n) σ3 r (nI z) r2 else some σ3 := by
        rw [xd_6]; unfold fMach_doPut
        rw [hX, Option.bind_some, f1 hzk, Option.bind_some]
        show (if (1 : Int32) = 0 then _ else (fRoom_readRef (2 * n) σ' (σ'.1 11) (nI b)).bind _) = _
        rw [if_neg (by decide), d4, hX3, Option.bind_some, bnd]
      have hM2 : mDisp τ (nI 6) (nI a) (nI b) (nI z) = if b2 = 0 then some τ3 else some (τ3.1, va_up τ3.2 9 (upd (τ3.2 9) (4 * t + z) (τ'.2 9 (4 * cur + b)))) := by
        rw [hM1]; unfold fMod_access_J96
        rw [if_pos (show nI z < τ'.2 0 k by rw [q6, nI_lt' (by omega) (by omega)]; exact hzk), if_neg oe6_5, if_pos oe6_6, k3, hM3, Option.bind_some, gd (show ix (nI (4 * cur + b)) 960 from ix_n (by omega) (by omega)), gd j1, j2, nI_tc (by omega)]
        show (if b2 = 0 then some τ3 else some (τ3.1, va_up τ3.2 9 (upd (τ3.2 9) (4 * t + z) (τ3.2 9 (4 * cur + b))))) = _
        rw [sb3.2.2.1]
      rcases hcase3 with ⟨a1, a2, a3, a4, hP⟩ | ⟨a1, a2, a3, hMd3, hcv⟩
      · exact ⟨σ3, τ3, by rw [hX0, if_neg (by rw [a1]; decide)], by rw [hM2, if_pos a3], hP⟩
      · obtain ⟨ht6, had⟩ := hag3 t t3
        have hkt : τ3.2 7 t = nI k := by rw [sb3.1]; exact q3
        have hcv2 : CVl τ3 ad3 t z (τ'.2 9 (4 * cur + b)) r2 := by
          rcases hcv with hc | ⟨u, u1, u2, u3, u4, u5⟩
          · exact Or.inl hc
          · refine Or.inr ⟨u, u1, u2, u3, u4, ?_⟩
            refine ⟨fun e => absurd (u5.mp e).2 (by omega), fun e => ?_⟩
            rw [hkt] at e
            exact absurd e.1 (nI_m1 (by omega))
        have hnr3 : nrN τ3 t = nrN τ' t := by unfold nrN krN; rw [sb3.1, mk3.2 0 (by omega)]
        obtain ⟨hX4, hM4⟩ := mid_setRef hMd3 t1 (by rw [ht6]; exact t3) (show z < nrN τ3 t by omega) (Or.inl (by omega)) hcv2
        refine ⟨_, _, ?_, by rw [hM2, if_neg (by rw [a3]; decide)], hM4.post (fun _ => pl_ref (pl_sb (pl_sb hp sb mk) sb3 mk3))⟩
        rw [hX0, if_pos a1, t4, ← had]; exact hX4
    · obtain ⟨r1, r2, r3⟩ := mid_raise hMd 2
      refine ⟨_, _, ?_, ?_, r3⟩
      · rw [xd_6]; unfold fMach_doPut
        rw [hX, Option.bind_some, f2 hzk, Option.bind_some]
        show (if (0 : Int32) = 0 then _ else _) = _
        rw [if_pos rfl]
      · rw [hM1]; unfold fMod_access_J96
        rw [if_neg (show ¬ nI z < τ'.2 0 k by rw [q6, nI_lt' (by omega) (by omega)]; exact hzk), bnd]; exact r2
theorem sim7 (h : Mid n nk nf op pc σ τ ad cur sk dl) (hp : PlOK τ cur) {a b z : Nat} (ha : a < 3) (hb : b < 3) (hz : z < 3) : Sim n nk nf op pc σ τ (nI 7) (nI a) (nI b) (nI z) := by
  obtain ⟨c1, c2, c3, c4, c5, c6, c7, c8, c9, c10⟩ := mid_cur h
  obtain ⟨i1, i2, i3⟩ := m_ix c3 c1 (show a < 4 by omega)
  obtain ⟨k1, k2, k3⟩ := m_ix c3 c1 (show b < 4 by omega)
  obtain ⟨r, σ', b', τ', ad', hX, hM, m9, sb, mk, e11, hcase⟩ := acc_sim h hb hz
  have hM0 := m_acc (ov := nI 7) (xv := nI a) (yv := nI b) (zv := nI z) (F := (4 : Int32) * τ.1 9) k3 (by omega) hM
  rcases hcase with ⟨b0, h1, h2, hP⟩ | ⟨b1, hn, σ2, h1, h2, hr, hP⟩ | ⟨b1, hMd, t, k, t1, t2, t3, t4, q1, q2, q3, q4, q5, q6, q7, q8, q9, q10, f1, f2, f3, f4⟩
  · refine ⟨σ', τ', ?_, by rw [md_7, hM0, if_pos b0], hP⟩
    rw [xd_7]; unfold fMach_doLoad
    rw [hX, Option.bind_some, h2, Option.bind_some]
    show (if (0 : Int32) = 0 then _ else _) = _
    rw [if_pos rfl]
  · refine ⟨σ2, _, ?_, by rw [md_7, hM0, if_neg (by rw [b1]; decide), if_pos hn]; exact hr, hP⟩
    rw [xd_7]; unfold fMach_doLoad
    rw [hX, Option.bind_some, h2, Option.bind_some]
    show (if (0 : Int32) = 0 then _ else _) = _
    rw [if_pos rfl]
  · have hM1 : mDisp τ (nI 7) (nI a) (nI b) (nI z) = fMod_access_J96 τ' (nI 7) (nI a) (nI b) (nI z) ((4 : Int32) * τ.1 9) (nI t) (τ'.2 1 k) := by
      rw [md_7, hM0, if_neg (by rw [b1]; decide), m_acc3 t1 (by omega) t2 q3, if_pos (by decide)]
    by_cases hzk : z < kiN τ' k
    · obtain ⟨j1, j2, j3⟩ := o_ix t1 (show z < 4 by omega)
      have hne : τ'.2 6 t ≠ 0 := by rcases t3 with h | h <;> rw [h] <;> decide
      obtain ⟨σ4, hX4, -, -, -, hM4⟩ := mid_csetI hMd (show a < 4 by omega) (τ'.2 10 (4 * t + z))
      refine ⟨σ4, _, ?_, ?_, hM4.post (fun _ => pl_int (pl_sb hp sb mk) ha)⟩
      · rw [xd_7]; unfold fMach_doLoad
        rw [hX, Option.bind_some, f3 hzk, Option.bind_some]
        show (if (1 : Int32) = 0 then _ else (fRoom_intOf (2 * n) σ' r (nI z)).bind _) = _
        rw [if_neg (by decide), t4, hp_int hMd.2.1 t1 hne (by omega), Option.bind_some, bnd]
        exact hX4
      · rw [hM1]; unfold fMod_access_J96
        rw [if_pos (show nI z < τ'.2 1 k by rw [q7, nI_lt' (by omega) (by omega)]; exact hzk), if_neg oe7_5, if_neg oe7_6, if_pos oe7_7, gd j1, gd i1, i2, j2]
    · obtain ⟨r1, r2, r3⟩ := mid_raise hMd 2
      refine ⟨_, _, ?_, ?_, r3⟩
      · rw [xd_7]; unfold fMach_doLoad
        rw [hX, Option.bind_some, f4 hzk, Option.bind_some]
        show (if (0 : Int32) = 0 then _ else _) = _
        rw [if_pos rfl]
      · rw [hM1]; unfold fMod_access_J96
        rw [if_neg (show ¬ nI z < τ'.2 1 k by rw [q7, nI_lt' (by omega) (by omega)]; exact hzk), bnd]; exact r2
theorem sim8 (h : Mid n nk nf op pc σ τ ad cur sk dl) (hp : PlOK τ cur) {a b z : Nat} (ha : a < 3) (hb : b < 3) (hz : z < 3) : Sim n nk nf op pc σ τ (nI 8) (nI a) (nI b) (nI z) := by
  obtain ⟨c1, c2, c3, c4, c5, c6, c7, c8, c9, c10⟩ := mid_cur h
  obtain ⟨i1, i2, i3⟩ := m_ix c3 c1 (show a < 4 by omega)
  obtain ⟨k1, k2, k3⟩ := m_ix c3 c1 (show b < 4 by omega)
  obtain ⟨r, σ', b', τ', ad', hX, hM, m9, sb, mk, e11, hcase⟩ := acc_sim h ha hz
  have hM0 := m_acc (ov := nI 8) (xv := nI a) (yv := nI b) (zv := nI z) (F := (4 : Int32) * τ.1 9) i3 (by omega) hM
  rcases hcase with ⟨b0, h1, h2, hP⟩ | ⟨b1, hn, σ2, h1, h2, hr, hP⟩ | ⟨b1, hMd, t, k, t1, t2, t3, t4, q1, q2, q3, q4, q5, q6, q7, q8, q9, q10, f1, f2, f3, f4⟩
  · refine ⟨σ', τ', ?_, by rw [md_8, hM0, if_pos b0], hP⟩
    rw [xd_8]; unfold fMach_doStore
    rw [hX, Option.bind_some, h2, Option.bind_some]
    show (if (0 : Int32) = 0 then _ else _) = _
    rw [if_pos rfl]
  · refine ⟨σ2, _, ?_, by rw [md_8, hM0, if_neg (by rw [b1]; decide), if_pos hn]; exact hr, hP⟩
    rw [xd_8]; unfold fMach_doStore
    rw [hX, Option.bind_some, h2, Option.bind_some]
    show (if (0 : Int32) = 0 then _ else _) = _
    rw [if_pos rfl]
  · have hM1 : mDisp τ (nI 8) (nI a) (nI b) (nI z) = fMod_access_J96 τ' (nI 8) (nI a) (nI b) (nI z) ((4 : Int32) * τ.1 9) (nI t) (τ'.2 1 k) := by
      rw [md_8, hM0, if_neg (by rw [b1]; decide), m_acc3 t1 (by omega) t2 q3, if_pos (by decide)]
    by_cases hzk : z < kiN τ' k
    · obtain ⟨j1, j2, j3⟩ := o_ix t1 (show z < 4 by omega)
      have htc : t ≠ cur := fun e => by
        have := (mid_cur hMd).2.2.2.2.1
        rw [← e, q3] at this
        exact absurd this (nI_m1 (by omega))
      obtain ⟨hX4, hM4⟩ := mid_setInt hMd t1 t3 (show z < niN τ' t by omega) (Or.inl (by omega)) (τ'.2 10 (4 * cur + b))
      refine ⟨_, _, ?_, ?_, hM4.post (fun _ => (pl_sb hp sb mk).same rfl (by show upd (τ'.2 10) (4 * t + z) _ (4 * cur + 3) = _; exact upd_n (by omega)) rfl)⟩
      · rw [xd_8]; unfold fMach_doStore
        rw [hX, Option.bind_some, f3 hzk, Option.bind_some]
        show (if (1 : Int32) = 0 then _ else (fMach_numberIn (2 * n) σ' (nI b)).bind _) = _
        rw [if_neg (by decide), mid_cint hMd (show b < 4 by omega), Option.bind_some, t4, bnd]
        exact hX4
      · rw [hM1]; unfold fMod_access_J96
        rw [if_pos (show nI z < τ'.2 1 k by rw [q7, nI_lt' (by omega) (by omega)]; exact hzk), if_neg oe8_5, if_neg oe8_6, if_neg oe8_7, gd k1, gd j1, j2, k2]
    · obtain ⟨r1, r2, r3⟩ := mid_raise hMd 2
      refine ⟨_, _, ?_, ?_, r3⟩
      · rw [xd_8]; unfold fMach_doStore
        rw [hX, Option.bind_some, f4 hzk, Option.bind_some]
        show (if (0 : Int32) = 0 then _ else _) = _
        rw [if_pos rfl]
      · rw [hM1]; unfold fMod_access_J96
        rw [if_neg (show ¬ nI z < τ'.2 1 k by rw [q7, nI_lt' (by omega) (by omega)]; exact hzk), bnd]; exact r2
end OP2
