/-! live: the reference's walk -/
abbrev MS (τ : St) (mk st : Nat → Int32) : St := (τ.1, va_up (va_up τ.2 13 mk) 12 st)
section LM
variable {n nk nf op pc : Nat} {run : Prop} {σ τ : St} {ad : Nat → Nat} {cur dl o j : Nat} {sk : Nat → Nat}
def MI (τ : St) (cur c : Nat) (stk : Nat → Nat) (P : Nat → Bool) (mk st : Nat → Int32) : Prop := (∀ k, k < c → stk k < 240 ∧ τ.2 6 (stk k) ≠ 0 ∧ Rch τ cur (stk k) ∧ st k = nI (stk k) ∧ P (stk k) = false) ∧ (∀ i j, i < c → j < c → stk i = stk j → i = j) ∧ (∀ k, k < c → mk (stk k) = 1) ∧ (∀ o, o < 240 → P o = true → mk o = 1) ∧ (∀ o, o < 240 → P o = false → (∀ k, k < c → stk k ≠ o) → mk o = 0) ∧ ∀ o, P o = true → o < 240 ∧ τ.2 6 o ≠ 0 ∧ Rch τ cur o
theorem m_inner (h : HP n nk nf run σ τ ad cur sk dl) {a : Nat} {x2 : Int32} {P : Nat → Bool} (ha : a < 240) (hl : τ.2 6 a ≠ 0) (hr : Rch τ cur a) : ∀ (K j c : Nat) (stk : Nat → Nat) (mk st : Nat → Int32), j ≤ nrN τ a → nrN τ a - j < K → MI τ cur c stk P mk st →
    ∃ c' stk' mk' st', rbLoop (fMod_live_B83 x2 (nI a)) K (nI c, nI (4 * a + j), MS τ mk st) = some (0, (nI c', nI (4 * a + nrN τ a), MS τ mk' st')) ∧ MI τ cur c' stk' P mk' st' ∧ c ≤ c' ∧ (∀ k, k < c → stk' k = stk k) ∧ ∀ j', j ≤ j' → j' < nrN τ a → ∀ t, t < 240 → τ.2 9 (4 * a + j') = nI t → (P t = true ∨ ∃ k, k < c' ∧ stk' k = t) := by
  obtain ⟨oT, hKd, -⟩ := hp_obj h ha hl
  have hnr := (ob_nr hKd oT).1
  have e4 : (4 : Int32) * nI a + nI (nrN τ a) = nI (4 * a + nrN τ a) := by rw [show (4 : Int32) = nI 4 from rfl, pk_mul, nI_add]
  intro K
  induction K with
  | zero => intro j c stk mk st _ hK; omega
  | succ K ih =>
    intro j c stk mk st hj hK hI
    have hmany : fMod_manyRefs (MS τ mk st) (nI a) = some (nI (nrN τ a), MS τ mk st) := m_many (τ := MS τ mk st) (nk := nk) (nf := nf) ha hKd oT
    by_cases hjr : j = nrN τ a
    · subst hjr
      refine ⟨c, stk, mk, st, rbLoop_end ?_ (by decide), hI, Nat.le_refl _, fun _ _ => rfl, fun j' h1 h2 => absurd h2 (by omega)⟩
      unfold fMod_live_B83
      show (fMod_manyRefs (MS τ mk st) (nI a)).bind _ = _
      rw [hmany, Option.bind_some]
      show (if (4 : Int32) * nI a + nI (nrN τ a) ≤ nI (4 * a + nrN τ a) then _ else _) = _
      rw [if_pos (by rw [e4]; exact Int32.le_refl _)]
    · have hjl : j < nrN τ a := by omega
      have iI : ix (nI (4 * a + j)) 960 := ix_n (by omega) (by omega)
      have tI : (nI (4 * a + j)).toNatClampNeg = 4 * a + j := nI_tc (by omega)
      have hB : fMod_live_B83 x2 (nI a) (nI c, nI (4 * a + j), MS τ mk st) = if τ.2 9 (4 * a + j) = -1 then some (1, (nI c, nI (4 * a + (j + 1)), MS τ mk st)) else (if ix (τ.2 9 (4 * a + j)) 240 then (if mk (τ.2 9 (4 * a + j)).toNatClampNeg = 0 then (if ix (τ.2 9 (4 * a + j)) 240 then (if ix (nI c) 240 then some (1, (nI (c + 1), nI (4 * a + (j + 1)), MS τ (upd mk (τ.2 9 (4 * a + j)).toNatClampNeg 1) (upd st (nI c).toNatClampNeg (τ.2 9 (4 * a + j))))) else none) else none) else some (1, (nI c, nI (4 * a + (j + 1)), MS τ mk st))) else none) := by
        unfold fMod_live_B83 fMod_live_B83_J152
        show (fMod_manyRefs (MS τ mk st) (nI a)).bind _ = _
        rw [hmany, Option.bind_some]
        show (if (4 : Int32) * nI a + nI (nrN τ a) ≤ nI (4 * a + j) then _ else (if ix (nI (4 * a + j)) 960 then (if τ.2 9 (nI (4 * a + j)).toNatClampNeg = -1 then some (1, (nI c, nI (4 * a + j) + 1, MS τ mk st)) else (if ix (nI (4 * a + j)) 960 then (if ix (τ.2 9 (nI (4 * a + j)).toNatClampNeg) 240 then (if mk (τ.2 9 (nI (4 * a + j)).toNatClampNeg).toNatClampNeg = 0 then (if ix (nI (4 * a + j)) 960 then (if ix (τ.2 9 (nI (4 * a + j)).toNatClampNeg) 240 then (if ix (nI (4 * a + j)) 960 then (if ix (nI c) 240 then some (1, (nI c + 1, nI (4 * a + j) + 1, (τ.1, va_up (va_up (va_up (va_up τ.2 13 mk) 12 st) 13 (upd mk (τ.2 9 (nI (4 * a + j)).toNatClampNeg).toNatClampNeg 1)) 12 (upd st (nI c).toNatClampNeg (τ.2 9 (nI (4 * a + j)).toNatClampNeg))))) else none) else none) else none) else none) else some (1, (nI c, nI (4 * a + j) + 1, MS τ mk st))) else none) else none)) else none)) = _
        rw [if_neg (by rw [e4, nI_le' (by omega) (by omega)]; omega), nI_1, nI_1]
        generalize nI (4 * a + j) = I at iI tI ⊢
        subst_vars
        simp only [if_pos iI, tI, up2 (show (13 : Nat) ≠ 12 by decide)]
        rfl
      have hstep : ∃ c1 stk1 mk1 st1, fMod_live_B83 x2 (nI a) (nI c, nI (4 * a + j), MS τ mk st) = some (1, (nI c1, nI (4 * a + (j + 1)), MS τ mk1 st1)) ∧ MI τ cur c1 stk1 P mk1 st1 ∧ c ≤ c1 ∧ (∀ k, k < c → stk1 k = stk k) ∧ ∀ t, t < 240 → τ.2 9 (4 * a + j) = nI t → (P t = true ∨ ∃ k, k < c1 ∧ stk1 k = t) := by
        rcases hp_peek h ha hl hjl with ⟨r1, -⟩ | ⟨t, t1, t2, t3, -, -⟩
        · refine ⟨c, stk, mk, st, by rw [hB, if_pos r1], hI, Nat.le_refl _, fun _ _ => rfl, fun t ht e => ?_⟩
          rw [r1] at e; exact absurd e.symm (nI_m1 (by omega))
        · have hrt := hr.step hjl t1 t2
          have it : ix (nI t) 240 := ix_n t1 (by omega)
          have tt : (nI t).toNatClampNeg = t := nI_tc (by omega)
          rw [t2, if_neg (nI_m1 (by omega)), gd it, gd it, tt] at hB
          obtain ⟨i1, i2, i3, i4, i5, i6⟩ := hI
          by_cases hin : P t = true ∨ ∃ k, k < c ∧ stk k = t
          · have hmk : mk t = 1 := by
              rcases hin with e | ⟨k, k1, k2⟩
              · exact i4 t t1 e
              · rw [← k2]; exact i3 k k1
            refine ⟨c, stk, mk, st, by rw [hB, if_neg (by rw [hmk]; decide)], ⟨i1, i2, i3, i4, i5, i6⟩, Nat.le_refl _, fun _ _ => rfl, fun u hu e => ?_⟩
            have : u = t := nI_inj (by omega) (by omega) (e.symm.trans t2)
            subst this; exact hin
          · have hPt : P t = false := by
              cases hp : P t
              · rfl
              · exact absurd (Or.inl hp) hin
            have hno : ∀ k, k < c → stk k ≠ t := fun k hk e => hin (Or.inr ⟨k, hk, e⟩)
            have inj' : ∀ i j, i < c + 1 → j < c + 1 → put stk c t i = put stk c t j → i = j := by
              intro i j hi hj e
              by_cases him : i = c
              · by_cases hjm : j = c
                · omega
                · rw [him, put_s, put_n hjm] at e
                  exact absurd e.symm (hno j (by omega))
              · by_cases hjm : j = c
                · rw [hjm, put_s, put_n him] at e
                  exact absurd e (hno i (by omega))
                · rw [put_n him, put_n hjm] at e
                  exact i2 i j (by omega) (by omega) e
            have hm := few h (m := c + 1) (f := put stk c t) (fun i hi => by
              by_cases him : i = c
              · rw [him, put_s]; exact ⟨t1, t3⟩
              · rw [put_n him]; exact ⟨(i1 i (by omega)).1, (i1 i (by omega)).2.1⟩) inj'
            refine ⟨c + 1, put stk c t, upd mk t 1, upd st c (nI t), ?_, ⟨?_, inj', ?_, ?_, ?_, i6⟩, by omega, fun k hk => put_n (by omega), fun u hu e => ?_⟩
            · rw [hB, if_pos (i5 t t1 hPt hno), gd (ix_n (by omega) (by omega)), nI_tc (by omega)]
            · intro k hk
              by_cases hkc : k = c
              · rw [hkc, put_s, upd_s]; exact ⟨t1, t3, hrt, rfl, hPt⟩
              · rw [put_n hkc, upd_n hkc]; exact i1 k (by omega)
            · intro k hk
              by_cases hkc : k = c
              · rw [hkc, put_s, upd_s]
              · rw [put_n hkc, upd_n (hno k (by omega))]; exact i3 k (by omega)
            · intro o ho hp
              by_cases hot : o = t
              · rw [hot, upd_s]
              · rw [upd_n hot]; exact i4 o ho hp
            · intro o ho hp hk
              have h1 := hk c (by omega)
              rw [put_s] at h1
              rw [upd_n (Ne.symm h1)]
              exact i5 o ho hp (fun k hk' => by have := hk k (by omega); rw [put_n (by omega)] at this; exact this)
            · have : u = t := nI_inj (by omega) (by omega) (e.symm.trans t2)
              subst this; exact Or.inr ⟨c, by omega, put_s⟩
      obtain ⟨c1, stk1, mk1, st1, s1, s2, s3, s4, s5⟩ := hstep
      obtain ⟨c', stk', mk', st', q1, q2, q3, q4, q5⟩ := ih (j + 1) c1 stk1 mk1 st1 (by omega) (by omega) s2
      refine ⟨c', stk', mk', st', by rw [rbLoop_go s1]; exact q1, q2, by omega, fun k hk => by rw [q4 k (by omega), s4 k hk], fun j' h1 h2 t ht e => ?_⟩
      by_cases hjj : j' = j
      · subst hjj
        rcases s5 t ht e with hp | ⟨k, k1, k2⟩
        · exact Or.inl hp
        · exact Or.inr ⟨k, by omega, by rw [q4 k k1]; exact k2⟩
      · exact q5 j' (by omega) h2 t ht e
theorem m_outer (h : HP n nk nf run σ τ ad cur sk dl) : ∀ (K c : Nat) (stk : Nat → Nat) (mk st : Nat → Int32) (P : Nat → Bool), 2161 - sumTo (indS P (szN τ)) 240 < K → MI τ cur c stk P mk st → (∀ o, P o = true → ∀ j, j < nrN τ o → ∀ t, t < 240 → τ.2 9 (4 * o + j) = nI t → (P t = true ∨ ∃ k, k < c ∧ stk k = t)) → (P cur = true ∨ ∃ k, k < c ∧ stk k = cur) →
    ∃ P' mk' st', rbLoop fMod_live_B56 K (nI c, nI (sumTo (indS P (szN τ)) 240), MS τ mk st) = some (0, (nI 0, nI (sumTo (indS P' (szN τ)) 240), MS τ mk' st')) ∧ ∀ o, P' o = true ↔ Rch τ cur o := by
  intro K
  induction K with
  | zero => intro c stk mk st P hK; omega
  | succ K ih =>
    intro c stk mk st P hK hI hC hcur
    have hle : ∀ Q : Nat → Bool, (∀ o, Q o = true → o < 240 ∧ τ.2 6 o ≠ 0 ∧ Rch τ cur o) → sumTo (indS Q (szN τ)) 240 ≤ 9 * 240 := fun Q hQ => ind_le (fun o ho => by
      obtain ⟨a1, a2, -⟩ := hQ o ho
      obtain ⟨oT, hKd, -⟩ := hp_obj h a1 a2
      exact (sz_le hKd oT).2) 240
    by_cases hc : c = 0
    · subst hc
      refine ⟨P, mk, st, rbLoop_end ?_ (by decide), fun o => ⟨fun e => (hI.2.2.2.2.2 o e).2.2, fun e => ?_⟩⟩
      · unfold fMod_live_B56
        show (if nI 0 ≤ 0 then _ else _) = _
        rw [if_pos (by decide)]
      · refine e (fun o => P o = true) ?_ (fun a j t ha hj ht et => ?_)
        · rcases hcur with e | ⟨k, k1, -⟩
          · exact e
          · omega
        · rcases hC a ha j hj t ht et with e | ⟨k, k1, -⟩
          · exact e
          · omega
    · obtain ⟨i1, i2, i3, i4, i5, i6⟩ := hI
      have hm := few h (m := c) (f := stk) (fun i hi => ⟨(i1 i hi).1, (i1 i hi).2.1⟩) i2
      obtain ⟨a1, a2, a3, a4, a5⟩ := i1 (c - 1) (by omega)
      obtain ⟨oT, hKd, -⟩ := hp_obj h a1 a2
      have hsz := sz_le hKd oT
      have hnr := (ob_nr hKd oT).1
      have hI' : MI τ cur (c - 1) stk (addP P (stk (c - 1))) mk st := by
        refine ⟨fun k hk => ?_, fun i j hi hj => i2 i j (by omega) (by omega), fun k hk => i3 k (by omega), fun o ho hp => ?_, fun o ho hp hk => ?_, fun o hp => ?_⟩
        · obtain ⟨b1, b2, b3, b4, b5⟩ := i1 k (by omega)
          refine ⟨b1, b2, b3, b4, ?_⟩
          cases hp : addP P (stk (c - 1)) (stk k)
          · rfl
          · rcases addP_iff.mp hp with e | e
            · rw [b5] at e; exact absurd e (by decide)
            · have := i2 k (c - 1) (by omega) (by omega) e; omega
        · rcases addP_iff.mp hp with e | e
          · exact i4 o ho e
          · rw [e]; exact i3 (c - 1) (by omega)
        · have hP : P o = false := by
            cases hq : P o
            · rfl
            · rw [addP_iff.mpr (Or.inl hq)] at hp; exact absurd hp (by decide)
          refine i5 o ho hP (fun k hk' e => ?_)
          by_cases hkc : k = c - 1
          · rw [hkc] at e
            rw [addP_iff.mpr (Or.inr e.symm)] at hp; exact absurd hp (by decide)
          · exact hk k (by omega) e
        · rcases addP_iff.mp hp with e | e
          · exact i6 o e
          · rw [e]; exact ⟨a1, a2, a3⟩
      obtain ⟨c1, stk1, mk1, st1, q1, q2, q3, q4, q5⟩ := m_inner h (x2 := nI (sumTo (indS P (szN τ)) 240) + nI (szN τ (stk (c - 1)))) a1 a2 a3 rbF 0 (c - 1) stk mk st (by omega) (by rw [rbF_val]; omega) hI'
      have hadd := ind_add (g := szN τ) a5 240 a1
      have hstep : fMod_live_B56 (nI c, nI (sumTo (indS P (szN τ)) 240), MS τ mk st) = some (1, (nI c1, nI (sumTo (indS (addP P (stk (c - 1))) (szN τ)) 240), MS τ mk1 st1)) := by
        have ec : nI c + (-1) = nI (c - 1) := by
          have e1 : nI c - 1 = nI (c - 1) := by rw [show (1 : Int32) = nI 1 from rfl, pk_sub (by omega)]
          rw [← e1]; exact (Int32.sub_eq_add_neg _ _).symm
        unfold fMod_live_B56
        show (if nI c ≤ 0 then _ else (if ix (nI c + (-1)) 240 then ((fMod_size (MS τ mk st) (st (nI c + (-1)).toNatClampNeg)).bind fun p73 => (rbLoop (fMod_live_B83 (nI (sumTo (indS P (szN τ)) 240) + p73.1) (st (nI c + (-1)).toNatClampNeg)) rbF ((nI c + (-1)), ((4 : Int32) * (st (nI c + (-1)).toNatClampNeg)), p73.2)).bind fun q83 => some (1, (q83.2.1, (nI (sumTo (indS P (szN τ)) 240) + p73.1), q83.2.2.2))) else none)) = _
        rw [if_neg (by rw [show (0 : Int32) = nI 0 from rfl, nI_le' (by omega) (by omega)]; omega), ec, gd (ix_n (by omega) (by omega)), nI_tc (by omega), a4, m_size (τ := MS τ mk st) (nk := nk) (nf := nf) a1 hKd oT, Option.bind_some]
        show Option.bind (rbLoop (fMod_live_B83 (nI (sumTo (indS P (szN τ)) 240) + nI (szN τ (stk (c - 1)))) (nI (stk (c - 1)))) rbF (nI (c - 1), (4 : Int32) * nI (stk (c - 1)), MS τ mk st)) _ = _
        rw [show (4 : Int32) * nI (stk (c - 1)) = nI (4 * stk (c - 1) + 0) by rw [show (4 : Int32) = nI 4 from rfl, pk_mul]; rfl, q1, Option.bind_some]
        show some (1, (nI c1, nI (sumTo (indS P (szN τ)) 240) + nI (szN τ (stk (c - 1))), MS τ mk1 st1)) = _
        rw [nI_add, hadd]
      have hb := hle _ i6
      obtain ⟨P', mk', st', w1, w2⟩ := ih c1 stk1 mk1 st1 (addP P (stk (c - 1))) (by omega) q2 (by
        intro o hp j hj t ht et
        by_cases hoa : o = stk (c - 1)
        · subst hoa; exact q5 j (by omega) hj t ht et
        · have hPo : P o = true := (addP_iff.mp hp).resolve_right hoa
          rcases hC o hPo j hj t ht et with e | ⟨k, k1, k2⟩
          · exact Or.inl (addP_iff.mpr (Or.inl e))
          · by_cases hkc : k = c - 1
            · subst hkc; exact Or.inl (addP_iff.mpr (Or.inr k2.symm))
            · exact Or.inr ⟨k, by omega, by rw [q4 k (by omega)]; exact k2⟩) (by
        rcases hcur with e | ⟨k, k1, k2⟩
        · exact Or.inl (addP_iff.mpr (Or.inl e))
        · by_cases hkc : k = c - 1
          · subst hkc; exact Or.inl (addP_iff.mpr (Or.inr k2.symm))
          · exact Or.inr ⟨k, by omega, by rw [q4 k (by omega)]; exact k2⟩)
      exact ⟨P', mk', st', by rw [rbLoop_go hstep]; exact w1, w2⟩
def zeM (τ : St) (i : Nat) : Nat → Int32 := fun p => if p < i then 0 else τ.2 13 p
theorem zeM_s {τ : St} {i : Nat} : upd (zeM τ i) i 0 = zeM τ (i + 1) := by
  funext p
  by_cases h : p = i
  · subst h; rw [upd_s]; unfold zeM; rw [if_pos (by omega)]
  · rw [upd_n h]; unfold zeM
    by_cases h2 : p < i
    · rw [if_pos h2, if_pos (by omega)]
    · rw [if_neg h2, if_neg (by omega)]
theorem m_liveLoop (τ : St) : rbLoop fMod_live_B12 rbF (0, τ) = some (0, (nI 240, (τ.1, va_up τ.2 13 (zeM τ 240)))) := by
  have hcnt := rbLoop_count (f := fMod_live_B12) (fun i => (nI i, (τ.1, va_up τ.2 13 (zeM τ i)))) 240 ?_ 0 (nI 240, (τ.1, va_up τ.2 13 (zeM τ 240))) (by decide) ?_ rbF 0 (by omega) (by rw [rbF_val]; omega)
  · have e0 : va_up τ.2 13 (zeM τ 0) = τ.2 := by
      have : zeM τ 0 = τ.2 13 := by funext p; unfold zeM; rw [if_neg (by omega)]
      rw [this, va_id]
    rw [e0] at hcnt
    exact hcnt
  · intro i hi
    have hg : ix (nI i) 240 := ix_n hi (by omega)
    have hc : (nI i).toNatClampNeg = i := nI_tc (by omega)
    have hlt : ¬ (240 : Int32) ≤ nI i := by rw [show (240 : Int32) = nI 240 from rfl, nI_le' (by omega) (by omega)]; omega
    have e1 : nI i + 1 = nI (i + 1) := nI_1 i
    show fMod_live_B12 (nI i, (τ.1, va_up τ.2 13 (zeM τ i))) = some (1, (nI (i + 1), (τ.1, va_up τ.2 13 (zeM τ (i + 1)))))
    rw [← e1]
    have hs := zeM_s (τ := τ) (i := i)
    generalize nI i = I at hg hc hlt ⊢
    subst hc
    unfold fMod_live_B12
    show (if (240 : Int32) ≤ I then _ else if ix I 240 then some (1, (I + 1, (τ.1, va_up (va_up τ.2 13 (zeM τ I.toNatClampNeg)) 13 (upd (zeM τ I.toNatClampNeg) I.toNatClampNeg 0)))) else none) = _
    rw [if_neg hlt, gd hg, va_va, hs]
  · unfold fMod_live_B12
    show (if (240 : Int32) ≤ nI 240 then _ else _) = _
    rw [if_pos (by decide)]
theorem m_live (h : HP n nk nf run σ τ ad cur sk dl) (h4 : ¬ τ.1 12 = 4) : ∃ P mk st, fMod_live τ = some (nI (sumTo (indS P (szN τ)) 240), MS τ mk st) ∧ ∀ o, P o = true ↔ Rch τ cur o := by
  have h0 := h
  obtain ⟨-, c1, c2, c3, c4, -⟩ := h
  have c8 : τ.2 6 cur ≠ 0 := by rcases c2 with h | h <;> rw [h] <;> decide
  have hz : ∀ o, o < 240 → zeM τ 240 o = 0 := fun o ho => by unfold zeM; rw [if_pos ho]
  obtain ⟨P, mk, st, w1, w2⟩ := m_outer h0 rbF 1 (fun _ => cur) (upd (zeM τ 240) cur 1) (upd (τ.2 12) 0 (nI cur)) (fun _ => false) (by rw [rbF_val]; omega) ⟨fun k hk => ⟨c1, c8, Rch.base, by rw [show k = 0 by omega]; exact upd_s, rfl⟩, fun i j hi hj _ => by omega, fun k hk => upd_s, fun o _ e => absurd (show false = true from e) (by decide), fun o ho _ hk => by rw [upd_n (Ne.symm (hk 0 (by omega)))]; exact hz o ho, fun o e => absurd (show false = true from e) (by decide)⟩ (fun o e => absurd (show false = true from e) (by decide)) (Or.inr ⟨0, by omega, rfl⟩)
  refine ⟨P, mk, st, ?_, w2⟩
  have hsw : va_up (va_up (va_up τ.2 13 (zeM τ 240)) 12 (upd (τ.2 12) 0 (nI cur))) 13 (upd (zeM τ 240) cur 1) = va_up (va_up τ.2 13 (upd (zeM τ 240) cur 1)) 12 (upd (τ.2 12) 0 (nI cur)) := by
    funext k
    by_cases h13 : k = 13
    · subst h13; rw [va_up_self, va_up_n (by decide), va_up_self]
    · rw [va_up_n h13]
      by_cases h12 : k = 12
      · subst h12; rw [va_up_self, va_up_self]
      · rw [va_up_n h12, va_up_n h13, va_up_n h12, va_up_n h13]
  unfold fMod_live
  rw [if_neg h4, m_liveLoop, Option.bind_some]
  show (if ix 0 240 then (if ix (τ.1 9) 240 then ((rbLoop fMod_live_B56 rbF (1, 0, (τ.1, va_up (va_up (va_up τ.2 13 (zeM τ 240)) 12 (upd (τ.2 12) (0 : Int32).toNatClampNeg (τ.1 9))) 13 (upd (zeM τ 240) (τ.1 9).toNatClampNeg 1)))).bind fun q56 => some (q56.2.2.1, q56.2.2.2)) else none) else none) = _
  rw [c3, gd (by decide), gd (ix_n c1 (by omega)), nI_tc (by omega), show (0 : Int32).toNatClampNeg = 0 from rfl, hsw]
  have w1' : rbLoop fMod_live_B56 rbF (1, 0, MS τ (upd (zeM τ 240) cur 1) (upd (τ.2 12) 0 (nI cur))) = some (0, (nI 0, nI (sumTo (indS P (szN τ)) 240), MS τ mk st)) := by
    have := w1
    rw [ind_none] at this
    exact this
  rw [w1', Option.bind_some]
theorem live_ok (h : RR n nk nf op pc σ τ) : Do n (fMach_live (2 * n) σ) (fMod_live τ) := by
  obtain ⟨⟨t1, t2, t3, t4, t5, t6, t7, t8, t9⟩, hh⟩ := id h
  rcases hh with hI | ⟨ad, cur, sk, dl, hH, hC⟩
  · refine ⟨(0, σ), (0, τ), ?_, ?_, rfl, nk, nf, op, pc, h⟩
    · unfold fMach_live; rw [if_pos hI.1]
    · unfold fMod_live; rw [if_pos hI.2.1]
  · obtain ⟨P, f11, f12, x1, x2, x3⟩ := x_live hH t9
    obtain ⟨Q, mk, st, y1, y2⟩ := m_live hH hC.no4.2
    have hPQ : P = Q := by
      funext o
      cases hp : P o
      · cases hq : Q o
        · rfl
        · rw [(x2 o).mpr ((y2 o).mp hq)] at hp; exact absurd hp (by decide)
      · exact ((y2 o).mpr ((x2 o).mp hp)).symm
    subst hPQ
    refine ⟨(nI (sumTo (indS P (szN τ)) 240), XS σ f11 f12), (nI (sumTo (indS P (szN τ)) 240), MS τ mk st), ?_, y1, rfl, nk, nf, op, pc, ⟨t1, t2, t3, t4, t5, t6, t7, t8, x3⟩, Or.inr ⟨ad, cur, sk, dl, hH, hC⟩⟩
    unfold fMach_live
    rw [if_neg hC.no4.1, bnd, x1]
end LM
