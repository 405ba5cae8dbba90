/-! a whole step; run -/
theorem x_perform {L : Nat} {σ σ1 : St} {Q M I : Int32} (h1 : fRoom_intOf L σ (σ.1 11) 3 = some (Q, σ)) (h2 : fMach_methodOfCurrent L σ = some (M, σ)) (h3 : M * 12 + Q = I) (iI : ix I 72) (h4 : fMach_setPlace L σ (Q + 1) = some σ1) : fMach_perform L σ = xDisp L σ1 (σ1.2 6 I.toNatClampNeg) (σ1.2 7 I.toNatClampNeg) (σ1.2 8 I.toNatClampNeg) (σ1.2 9 I.toNatClampNeg) := by
  subst h3
  unfold fMach_perform
  rw [h1, Option.bind_some]
  show (fMach_methodOfCurrent L σ).bind _ = _
  rw [h2, Option.bind_some]
  unfold fMeths_find
  rw [Option.bind_some]
  show (fMach_setPlace L σ (Q + 1)).bind _ = _
  rw [h4, Option.bind_some]
  simp only [if_pos iI]
  rfl
section RN
variable {n nk nf op pc : Nat} {σ τ : St} {ad : Nat → Nat} {cur dl o j : Nat} {sk : Nat → Nat}
theorem step_sim (h : Mid n nk nf op pc σ τ ad cur sk dl) (hp : PlOK τ cur) (h10 : τ.1 10 = 0) : ∃ σ' τ', fMach_perform (2 * n) σ = some σ' ∧ fMod_step τ = some τ' ∧ Post n nk nf op pc σ' τ' := by
  obtain ⟨c1, c2, c3, c4, c5, c6, c7, c8, c9, c10⟩ := mid_cur h
  obtain ⟨m, hm, hm6, e8, hmX, hRM, hFin⟩ := mid_meth h
  obtain ⟨m', q, p1, p2, p3, p4⟩ := hp
  have : m' = m := nI_inj (by omega) (by omega) (p1.symm.trans e8)
  subst this
  have hl12 := hRM.2.2.1
  obtain ⟨r1, r2, r3, r4, w⟩ := hRM.2.2.2.2.2 q p3
  obtain ⟨l1, l2, l3⟩ := m_ix c3 c1 (show 3 < 4 by omega)
  have l2' : ((4 : Int32) * τ.1 9 + 3).toNatClampNeg = 4 * cur + 3 := l2
  have i9 : ix (τ.1 9) 240 := by rw [c3]; exact ix_n c1 (by omega)
  have t9 : (τ.1 9).toNatClampNeg = cur := by rw [c3]; exact nI_tc (by omega)
  obtain ⟨σ1, -, hX1, hs1, hs2, hM1⟩ := mid_csetI h (show 3 < 4 by omega) (nI (q + 1))
  have hM0 := m_step (τ := τ) hm6 (show q < 12 by omega) h10 i9 (by rw [t9]; exact e8) rfl (show ix ((4 : Int32) * τ.1 9 + 3) 960 from l1) (by rw [l2']; exact p4)
  rw [l2'] at hM0
  have hX0 := x_perform (L := 2 * n) (σ := σ) (σ1 := σ1) (Q := nI q) (M := nI m') (I := nI (12 * m' + q)) (by rw [show (3 : Int32) = nI 3 from rfl, c4, hp_int h.2.1 c1 c8 (by omega), p4]) hmX (by rw [show (12 : Int32) = nI 12 from rfl, pk_mul, nI_add]; congr 1; omega) (ix_n (by omega) (by omega)) (by unfold fMach_setPlace; rw [bnd, show nI q + 1 = nI (q + 1) by rw [show (1 : Int32) = nI 1 from rfl, nI_add]]; exact hX1)
  rw [nI_tc (by omega), hs2 6 (by decide), hs2 7 (by decide), hs2 8 (by decide), hs2 9 (by decide), r1, r2, r3, r4] at hX0
  have hpn : q + 1 < lenN τ m' → PlOK (τ.1, va_up τ.2 10 (upd (τ.2 10) (4 * cur + 3) (nI (q + 1)))) cur := fun hh => ⟨m', q + 1, e8, hm6, hh, upd_s⟩
  suffices hS : Sim n nk nf op pc σ1 (τ.1, va_up τ.2 10 (upd (τ.2 10) (4 * cur + 3) (nI (q + 1)))) (τ.2 5 (48 * m' + 4 * q)) (τ.2 5 (48 * m' + 4 * q + 1)) (τ.2 5 (48 * m' + 4 * q + 2)) (τ.2 5 (48 * m' + 4 * q + 3)) by
    obtain ⟨σ', τ', s1, s2, s3⟩ := hS
    exact ⟨σ', τ', hX0.trans s1, hM0.trans s2, s3⟩
  obtain ⟨o, o1, o2, o3, o4, o5, o6, o7, o8⟩ := w
  have hlast : o ≠ 9 → o ≠ 13 → o ≠ 14 → q + 1 < lenN τ m' := by
    intro n9 n13 n14
    refine Classical.byContradiction fun hc => ?_
    have e : lenN τ m' - 1 = q := by omega
    have := hFin.2.1
    rw [e, o2] at this
    rcases this with h | h | h
    · exact n9 (nI_inj (by omega) (by omega) h)
    · exact n13 (nI_inj (by omega) (by omega) h)
    · exact n14 (nI_inj (by omega) (by omega) h)
  have hj : o = 9 ∨ o = 10 ∨ o = 11 → ∃ z, (∃ m, τ.2 8 cur = nI m ∧ m < 6 ∧ z < lenN τ m) ∧ τ.2 5 (48 * m' + 4 * q + 3) = nI z := by
    intro ho
    obtain ⟨z, z1, z2⟩ := hFin.2.2.1 q p3 (by rw [o2]; rcases ho with h | h | h <;> subst h <;> simp)
    exact ⟨z, ⟨m', e8, hm6, z1⟩, z2⟩
  rw [o2]
  have hcase : o = 0 ∨ o = 1 ∨ o = 2 ∨ o = 3 ∨ o = 4 ∨ o = 5 ∨ o = 6 ∨ o = 7 ∨ o = 8 ∨ o = 9 ∨ o = 10 ∨ o = 11 ∨ o = 12 ∨ o = 13 ∨ o = 14 ∨ o = 15 := by omega
  rcases hcase with h | h | h | h | h | h | h | h | h | h | h | h | h | h | h | h <;> subst h
  · obtain ⟨a, a1, a2⟩ := o3 (by decide)
    rw [a2]; exact sim0 hM1 (hpn (hlast (by decide) (by decide) (by decide))) a1
  · obtain ⟨a, a1, a2⟩ := o3 (by decide)
    obtain ⟨b, b1, b2⟩ := o4 (by decide)
    obtain ⟨c, d1, d2⟩ := o5 (by decide)
    rw [a2, b2, d2]; exact sim1 hM1 (hpn (hlast (by decide) (by decide) (by decide))) a1 b1 d1
  · obtain ⟨a, a1, a2⟩ := o3 (by decide)
    obtain ⟨c, d1, d2⟩ := o6 (by decide)
    rw [a2, d2]; exact sim2 hM1 (hpn (hlast (by decide) (by decide) (by decide))) a1 d1
  · obtain ⟨a, a1, a2⟩ := o3 (by decide)
    obtain ⟨b, b1, b2⟩ := o4 (by decide)
    rw [a2, b2]; exact sim3 hM1 (hpn (hlast (by decide) (by decide) (by decide))) a1 b1
  · obtain ⟨a, a1, a2⟩ := o3 (by decide)
    rw [a2]; exact sim4 hM1 (hpn (hlast (by decide) (by decide) (by decide))) a1
  · obtain ⟨a, a1, a2⟩ := o3 (by decide)
    obtain ⟨b, b1, b2⟩ := o4 (by decide)
    obtain ⟨c, d1, d2⟩ := o5 (by decide)
    rw [a2, b2, d2]; exact sim5 hM1 (hpn (hlast (by decide) (by decide) (by decide))) a1 b1 d1
  · obtain ⟨a, a1, a2⟩ := o3 (by decide)
    obtain ⟨b, b1, b2⟩ := o4 (by decide)
    obtain ⟨c, d1, d2⟩ := o5 (by decide)
    rw [a2, b2, d2]; exact sim6 hM1 (hpn (hlast (by decide) (by decide) (by decide))) a1 b1 d1
  · obtain ⟨a, a1, a2⟩ := o3 (by decide)
    obtain ⟨b, b1, b2⟩ := o4 (by decide)
    obtain ⟨c, d1, d2⟩ := o5 (by decide)
    rw [a2, b2, d2]; exact sim7 hM1 (hpn (hlast (by decide) (by decide) (by decide))) a1 b1 d1
  · obtain ⟨a, a1, a2⟩ := o3 (by decide)
    obtain ⟨b, b1, b2⟩ := o4 (by decide)
    obtain ⟨c, d1, d2⟩ := o5 (by decide)
    rw [a2, b2, d2]; exact sim8 hM1 (hpn (hlast (by decide) (by decide) (by decide))) a1 b1 d1
  · obtain ⟨z, z1, z2⟩ := hj (by decide)
    rw [z2]; exact sim9 hM1 z1
  · obtain ⟨a, a1, a2⟩ := o3 (by decide)
    obtain ⟨z, z1, z2⟩ := hj (by decide)
    rw [a2, z2]; exact sim10 hM1 (hpn (hlast (by decide) (by decide) (by decide))) a1 z1
  · obtain ⟨a, a1, a2⟩ := o3 (by decide)
    obtain ⟨z, z1, z2⟩ := hj (by decide)
    rw [a2, z2]; exact sim11 hM1 (hpn (hlast (by decide) (by decide) (by decide))) a1 z1
  · obtain ⟨a, a1, a2⟩ := o3 (by decide)
    obtain ⟨b, b1, b2⟩ := o4 (by decide)
    obtain ⟨c, d1, d2⟩ := o8 (by decide)
    rw [a2, b2, d2]; exact sim12 hM1 (hpn (hlast (by decide) (by decide) (by decide))) a1 b1 d1
  · obtain ⟨a, a1, a2⟩ := o3 (by decide)
    obtain ⟨b, b1, b2⟩ := o4 (by decide)
    rw [a2, b2]; exact sim13 hM1 a1 b1
  · obtain ⟨a, a1, a2⟩ := o3 (by decide)
    rw [a2]; exact sim14 hM1 a1
  · obtain ⟨a, a1, a2⟩ := o3 (by decide)
    rw [a2]; exact sim15 hM1 (hpn (hlast (by decide) (by decide) (by decide))) a1
/-- the machine that was started, between calls -/
def Ctl (σ τ : St) (cur : Nat) : Prop := (σ.1 20 = 1 ∧ τ.1 12 = 3 ∧ σ.1 1 = 3 ∧ σ.1 2 = 0) ∨ (σ.1 20 = 0 ∧ τ.1 12 = 0 ∧ σ.1 1 = 0 ∧ σ.1 2 = 0 ∧ (τ.1 10 = 0 → PlOK τ cur)) ∨ (σ.1 20 = 0 ∧ (τ.1 12 = 1 ∨ τ.1 12 = 2) ∧ σ.1 1 = τ.1 12 ∧ σ.1 2 = τ.1 13)
def Ini (σ τ : St) : Prop := σ.1 1 = 4 ∧ τ.1 12 = 4 ∧ σ.1 2 = 0 ∧ σ.1 13 = σ.1 14 ∧ τ.1 7 = 0 ∧ τ.1 6 = 0 ∧ τ.1 8 = 0 ∧ τ.1 5 = 0 ∧ σ.1 18 = τ.1 14 ∧ σ.1 19 = τ.1 16
def RR (n nk nf op pc : Nat) (σ τ : St) : Prop := Stat n σ τ nk nf op pc ∧ (Ini σ τ ∨ ∃ ad cur sk dl, HP n nk nf (σ.1 20 = 0) σ τ ad cur sk dl ∧ Ctl σ τ cur)
theorem RR.ph (h : RR n nk nf op pc σ τ) : σ.1 1 = τ.1 12 := by
  rcases h.2 with h | ⟨ad, cur, sk, dl, -, h | h | h⟩
  · rw [h.1, h.2.1]
  · rw [h.2.1, h.2.2.1]
  · rw [h.2.1, h.2.2.1]
  · exact h.2.2.1
theorem run_step (h : RR n nk nf op pc σ τ) (h0 : τ.1 12 = 0) {x : Int32} {i : Nat} (hx : ¬ x ≤ nI i) : ∃ σ' τ', fMach_run_B20 (2 * n) x (nI i, σ) = some (1, (nI (i + 1), σ')) ∧ fMod_run_B20 x (nI i, τ) = some (1, (nI (i + 1), τ')) ∧ RR n nk nf op pc σ' τ' := by
  have hph := h.ph
  obtain ⟨hS, hh⟩ := h
  rcases hh with hI | ⟨ad, cur, sk, dl, hH, hC⟩
  · rw [hI.2.1] at h0; exact absurd h0 (by decide)
  have hC2 : σ.1 20 = 0 ∧ τ.1 12 = 0 ∧ σ.1 1 = 0 ∧ σ.1 2 = 0 ∧ (τ.1 10 = 0 → PlOK τ cur) := by
    rcases hC with h | h | h
    · rw [h0] at h; exact absurd h.2.1 (by decide)
    · exact h
    · rw [h0] at h; exact absurd h.2.1 (by decide)
  obtain ⟨q1, q2, q3, q4, q5⟩ := hC2
  have hMid : Mid n nk nf op pc (upd σ.1 19 0, σ.2) (upd τ.1 16 0, τ.2) ad cur sk dl := by
    obtain ⟨hR, g1, g2, g3, g4, gC, gs, gpl, gw, gfl⟩ := hH.weak (run' := True) (fun _ => q1)
    exact ⟨hS, ⟨hR, g1, g2, g3, g4, gC, gs, gpl, rfl, gfl⟩, q1, q2, q3, q4⟩
  have e1 : nI i + 1 = nI (i + 1) := by rw [show (1 : Int32) = nI 1 from rfl, nI_add]
  have key : ∃ σ' τ', (if σ.1 3 = 0 then ((fMach_perform (2 * n) (upd σ.1 19 0, σ.2)).bind fun p55 => fMach_run_B20_J58 (2 * n) p55 x (nI i)) else ((fMach_passException (2 * n) (upd σ.1 19 0, σ.2)).bind fun p48 => fMach_run_B20_J58 (2 * n) p48 x (nI i))) = fMach_run_B20_J58 (2 * n) σ' x (nI i) ∧ fMod_step (upd τ.1 16 0, τ.2) = some τ' ∧ Post n nk nf op pc σ' τ' := by
    have e3 : σ.1 3 = τ.1 10 := hS.2.2.2.2.2.2.2.1.1
    by_cases hp : τ.1 10 = 0
    · obtain ⟨σ', τ', s1, s2, s3⟩ := step_sim hMid (q5 hp) hp
      exact ⟨σ', τ', by rw [if_pos (e3.trans hp), s1, Option.bind_some], s2, s3⟩
    · obtain ⟨σ', τ', s1, s2, s3⟩ := unwind_sim hMid hp
      refine ⟨σ', τ', by rw [if_neg (by rw [e3]; exact hp), s1, Option.bind_some], ?_, s3⟩
      unfold fMod_step
      rw [if_neg (show ¬ (upd τ.1 16 0, τ.2).1 10 = 0 from hp), bnd, s2]
  obtain ⟨σ', τ', s1, s2, ⟨s3, ad', cur', sk', dl', hH', hC'⟩⟩ := key
  have hw : σ'.1 19 = τ'.1 16 := hH'.2.2.2.2.2.2.2.2.1
  have hg : σ'.1 5 = τ'.1 17 := s3.2.2.2.2.2.2.1
  have hmx : (if σ'.1 5 < σ'.1 19 then σ'.1 19 else σ'.1 5) = (if τ'.1 16 ≤ τ'.1 17 then τ'.1 17 else τ'.1 16) := by
    rw [hw, hg]
    by_cases hc : τ'.1 16 ≤ τ'.1 17
    · rw [if_pos hc, if_neg (Int32.not_lt.mpr hc)]
    · rw [if_neg hc, if_pos (Int32.not_le.mp hc)]
  have hMend : fMod_run_B20 x (nI i, τ) = some (1, (nI (i + 1), (upd τ'.1 17 (if τ'.1 16 ≤ τ'.1 17 then τ'.1 17 else τ'.1 16), τ'.2))) := by
    unfold fMod_run_B20
    show (if x ≤ nI i then _ else (if τ.1 12 = 0 then ((fMod_step (upd τ.1 16 0, τ.2)).bind _) else _)) = _
    rw [if_neg hx, if_pos h0, s2, Option.bind_some]
    unfold fMod_run_B20_J64
    show (if τ'.1 16 ≤ τ'.1 17 then some (1, (nI i + 1, _)) else some (1, (nI i + 1, _))) = _
    rw [e1]
    by_cases hc : τ'.1 16 ≤ τ'.1 17
    · rw [if_pos hc, if_pos hc]
    · rw [if_neg hc, if_neg hc]
  have hX0 : fMach_run_B20 (2 * n) x (nI i, σ) = fMach_run_B20_J58 (2 * n) σ' x (nI i) := by
    unfold fMach_run_B20
    show (if x ≤ nI i then _ else (if σ.1 1 = 0 then _ else _)) = _
    rw [if_neg hx, if_pos q3]
    exact s1
  obtain ⟨t1, t2, t3, t4, t5, t6, t7, t8, t9⟩ := s3
  by_cases h20 : σ'.1 20 = 0
  · refine ⟨(upd σ'.1 5 (if σ'.1 5 < σ'.1 19 then σ'.1 19 else σ'.1 5), σ'.2), _, ?_, hMend, ⟨t1, t2, t3, t4, t5, t6, hmx, t8, t9⟩, Or.inr ⟨ad', cur', sk', dl', hH', ?_⟩⟩
    · rw [hX0]
      unfold fMach_run_B20_J58 fMach_run_B20_J73
      rw [if_pos h20, e1]
    · rcases hC' with h | h | h
      · rw [h20] at h; exact absurd h.1 (by decide)
      · exact Or.inr (Or.inl h)
      · exact Or.inr (Or.inr h)
  · refine ⟨(upd (upd σ'.1 1 3) 5 (if σ'.1 5 < σ'.1 19 then σ'.1 19 else σ'.1 5), σ'.2), _, ?_, hMend, ⟨t1, t2, t3, t4, t5, t6, hmx, t8, t9⟩, Or.inr ⟨ad', cur', sk', dl', hH', ?_⟩⟩
    · rw [hX0]
      unfold fMach_run_B20_J58 fMach_run_B20_J73
      rw [if_neg h20, e1]
      rfl
    · rcases hC' with h | h | h
      · exact Or.inl ⟨h.1, h.2.1, rfl, h.2.2.2⟩
      · exact absurd h.1 h20
      · exact absurd h.1 h20
theorem run_loop {c : Nat} (hc : c ≤ 200) : ∀ (K i : Nat) (σ τ : St), RR n nk nf op pc σ τ → i ≤ c → c - i < K → ∃ v σ' τ', rbLoop (fMach_run_B20 (2 * n) (nI c)) K (nI i, σ) = some (0, (v, σ')) ∧ rbLoop (fMod_run_B20 (nI c)) K (nI i, τ) = some (0, (v, τ')) ∧ RR n nk nf op pc σ' τ' := by
  intro K
  induction K with
  | zero => intro i σ τ _ _ h; omega
  | succ K ih =>
    intro i σ τ h hi hK
    by_cases hx : nI c ≤ nI i
    · refine ⟨nI i, σ, τ, rbLoop_end (c := 0) ?_ (by decide), rbLoop_end (c := 0) ?_ (by decide), h⟩
      · unfold fMach_run_B20; exact if_pos hx
      · unfold fMod_run_B20; exact if_pos hx
    · have hic : i < c := by
        rw [nI_le' (by omega) (by omega)] at hx; omega
      by_cases h0 : τ.1 12 = 0
      · obtain ⟨σ', τ', s1, s2, s3⟩ := run_step h h0 hx
        rw [rbLoop_go s1, rbLoop_go s2]
        exact ih (i + 1) σ' τ' s3 (by omega) (by omega)
      · refine ⟨nI i, σ, τ, rbLoop_end (c := 0) ?_ (by decide), rbLoop_end (c := 0) ?_ (by decide), h⟩
        · unfold fMach_run_B20
          show (if nI c ≤ nI i then _ else (if σ.1 1 = 0 then _ else _)) = _
          rw [if_neg hx, if_neg (by rw [h.ph]; exact h0)]
        · unfold fMod_run_B20
          show (if nI c ≤ nI i then _ else (if τ.1 12 = 0 then _ else _)) = _
          rw [if_neg hx, if_neg h0]
theorem run_ok (h : RR n nk nf op pc σ τ) (x : Int32) : ∃ p q, fMach_run (2 * n) σ x = some p ∧ fMod_run τ x = some q ∧ p.1 = q.1 ∧ RR n nk nf op pc p.2 q.2 := by
  by_cases h1 : x < 0
  · exact ⟨(-1, σ), (-1, τ), by unfold fMach_run; rw [if_pos h1], by unfold fMod_run; rw [if_pos h1], rfl, h⟩
  by_cases h2 : x ≤ 200
  · obtain ⟨c, hc, rfl⟩ := nI_of2 (n := 200) (by decide) h1 h2
    have h' : RR n nk nf op pc (upd σ.1 5 0, σ.2) (upd τ.1 17 0, τ.2) := by
      obtain ⟨⟨t1, t2, t3, t4, t5, t6, t7, t8, t9⟩, hh⟩ := h
      exact ⟨⟨t1, t2, t3, t4, t5, t6, rfl, t8, t9⟩, hh⟩
    obtain ⟨v, σ', τ', s1, s2, s3⟩ := run_loop hc rbF 0 _ _ h' (by omega) (by rw [rbF_val]; omega)
    refine ⟨(v, σ'), (v, τ'), ?_, ?_, rfl, s3⟩
    · unfold fMach_run
      rw [if_neg h1, if_pos h2, show rbLoop (fMach_run_B20 (2 * n) (nI c)) rbF (0, (upd σ.1 5 0, σ.2)) = _ from s1, Option.bind_some]
    · unfold fMod_run
      rw [if_neg h1, if_pos h2, show rbLoop (fMod_run_B20 (nI c)) rbF (0, (upd τ.1 17 0, τ.2)) = _ from s2, Option.bind_some]
  · exact ⟨(-1, σ), (-1, τ), by unfold fMach_run; rw [if_neg h1, if_neg h2], by unfold fMod_run; rw [if_neg h1, if_neg h2], rfl, h⟩
end RN
