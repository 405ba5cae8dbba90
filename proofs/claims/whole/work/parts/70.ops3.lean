/-! CALL, RETURN, SHOW, an exception on its way -/
section OP3
variable {n nk nf op pc : Nat} {σ τ : St} {ad : Nat → Nat} {cur dl o j : Nat} {sk : Nat → Nat}
/-- the caller becomes the current frame -/
theorem mid_pop (h : Mid n nk nf op pc σ τ ad cur sk dl) {g : Nat} (hl : τ.2 9 (4 * cur + 3) = nI g) (hg : g < 240) (hga : τ.2 6 g = 1 ∨ τ.2 6 g = 2) : Mid n nk nf op pc (upd σ.1 11 (nI (ad g)), σ.2) (upd τ.1 9 (nI g), τ.2) ad g (fun i => sk (i + 1)) (dl - 1) ∧ PlOK τ g := by
  obtain ⟨h1, ⟨hR, g1, g2, g3, g4, hC, hs, hpl, hw, hfl⟩, h3, h4, h5, h6⟩ := h
  obtain ⟨c1, c2, c3, c4, c5⟩ := hC
  have hdl : 2 ≤ dl := by
    refine Classical.byContradiction fun hd => ?_
    have : dl = 1 := by omega
    subst this
    rw [show (1 : Nat) - 1 = 0 from rfl, hs, hl] at c4
    exact absurd c4 (nI_m1 (by omega))
  have hsg : sk 1 = g := by
    have := c3 0 (by omega)
    rw [hs, hl] at this
    have h1 : sk (0 + 1) < 240 := (c2 1 (by omega)).1
    exact (nI_inj (by omega) (by omega) this).symm
  refine ⟨⟨?_, ⟨hR, hg, hga, rfl, rfl, ⟨by omega, fun i hi => c2 (i + 1) (by omega), fun i hi => c3 (i + 1) (by omega), ?_, fun i j hi hj e => by have := c5 (i + 1) (j + 1) (by omega) (by omega) e; omega⟩, hsg, fun i hi1 hi2 => hpl (i + 1) (by omega) (by omega), hw, hfl⟩, h3, h4, h5, h6⟩, ?_⟩
  · exact h1
  · show τ.2 9 (4 * sk (dl - 1 - 1 + 1) + 3) = -1
    rw [show dl - 1 - 1 + 1 = dl - 1 by omega]; exact c4
  · rw [← hsg]; exact hpl 1 (by omega) (by omega)
theorem CVl.to {τ' : St} {ad' : Nat → Nat} {o' j' : Nat} {p v : Int32} (h : CVl τ ad o j p v) (hj : j < 3) (hj' : j' < 3) (hag : ∀ p, (τ.2 6 p = 1 ∨ τ.2 6 p = 2) → τ'.2 6 p = τ.2 6 p ∧ ad' p = ad p) (h7 : τ'.2 7 = τ.2 7) : CVl τ' ad' o' j' p v := by
  rcases h with h | ⟨t, t1, t2, t3, t4, t5⟩
  · exact Or.inl h
  · refine Or.inr ⟨t, t1, t2, by rw [(hag t t3).1]; exact t3, by rw [(hag t t3).2]; exact t4, ?_⟩
    rw [h7]
    exact ⟨fun e => absurd (t5.mp e).2 (by omega), fun e => absurd e.2 (by omega)⟩
theorem gd2 {c : Prop} {i : Decidable c} {α : Type} {x : Option α} : (if c then (if c then x else none) else none) = if c then x else none := by split <;> rfl
theorem m_leave {x1 x2 A B C : Int32} (ha : (4 : Int32) * τ.1 9 + x1 = A) (hb : (4 : Int32) * τ.1 9 + x2 = B) (hc : (4 : Int32) * τ.1 9 + 3 = C) (iA : ix A 960) (iB : ix B 960) (iC : ix C 960) : fMod_leave τ x1 x2 = (fMod_read τ A).bind fun p => if p.1 = 0 then some p.2 else (if p.2.2 9 C.toNatClampNeg = -1 then some (upd (upd p.2.1 12 1) 13 (p.2.2 10 B.toNatClampNeg), p.2.2) else (fMod_read p.2 C).bind fun q => if q.1 = 0 then some q.2 else (if ix ((4 : Int32) * q.2.2 9 C.toNatClampNeg + 2) 960 then some (upd q.2.1 9 (((4 : Int32) * q.2.2 9 C.toNatClampNeg) / 4), va_up (va_up q.2.2 9 (upd (q.2.2 9) ((4 : Int32) * q.2.2 9 C.toNatClampNeg + 2).toNatClampNeg (q.2.2 9 A.toNatClampNeg))) 10 (upd (q.2.2 10) ((4 : Int32) * q.2.2 9 C.toNatClampNeg + 2).toNatClampNeg (q.2.2 10 B.toNatClampNeg))) else none)) := by
  subst ha hb hc
  unfold fMod_leave
  simp only [if_pos iA, if_pos iB, if_pos iC, gd2]
theorem sim13 (h : Mid n nk nf op pc σ τ ad cur sk dl) {a b : Nat} (ha : a < 3) (hb : b < 3) {zv : Int32} : Sim n nk nf op pc σ τ (nI 13) (nI a) (nI b) zv := by
  obtain ⟨c1, c2, c3, c4, c5, c6, c7, c8, c9, c10⟩ := mid_cur h
  obtain ⟨i1, i2, i3⟩ := m_ix c3 c1 (show a < 4 by omega)
  obtain ⟨k1, k2, k3⟩ := m_ix c3 c1 (show b < 4 by omega)
  obtain ⟨l1, l2, l3⟩ := m_ix c3 c1 (show 3 < 4 by omega)
  obtain ⟨r, σ', b', τ', ad', hX, hM, e11, m9, m10, sb, mk, hag, hcase⟩ := mid_read h c1 c2 (show a < nrN τ cur by omega)
  have hM0 := m_leave (τ := τ) (x1 := nI a) (x2 := nI b) rfl rfl rfl i1 k1 l1
  have hX0 : fMach_doReturn (2 * n) σ (nI a) (nI b) = if σ'.1 20 = 0 then ((fRoom_readRef (2 * n) σ' (σ'.1 11) 3).bind fun p39 => if (p39.2.1 20) = 0 then ((fMach_numberIn (2 * n) p39.2 (nI b)).bind fun p57 => if p39.1 = (-1) then (some (upd (upd p57.2.1 1 1) 2 p57.1, p57.2.2)) else ((fRoom_setRef (2 * n) (upd p57.2.1 11 p39.1, p57.2.2) p39.1 2 r).bind fun p97 => (fMach_setNumber (2 * n) p97 2 p57.1))) else (some p39.2)) else (some σ') := by
    unfold fMach_doReturn
    rw [c4, hX, Option.bind_some]
    simp only [bnd]
  have hr1 : fMod_read τ ((4 : Int32) * τ.1 9 + nI a) = some (b', τ') := by rw [i3]; exact hM
  rw [hr1, Option.bind_some] at hM0
  rcases hcase with ⟨a1, a2, a3, a4, hP⟩ | ⟨a1, a2, a3, hMd, hcv⟩
  · refine ⟨σ', τ', by rw [xd_13, hX0, if_neg (by rw [a1]; decide)], by rw [md_13, hM0, if_pos a3], hP⟩
  · rw [if_neg (show ¬ b' = 0 by rw [a3]; decide)] at hM0
    rw [if_pos a1] at hX0
    obtain ⟨d1, d2, d3, d4, d5, d6, d7, d8, d9, d10⟩ := mid_cur hMd
    obtain ⟨r3, σ2, b2, τ2, ad2, hX2, hM2, e112, m92, m102, sb2, mk2, hag2, hcase2⟩ := mid_read hMd d1 d2 (show 3 < nrN τ' cur by omega)
    have hr2 : fMod_read τ' ((4 : Int32) * τ.1 9 + 3) = some (b2, τ2) := by rw [show ((4 : Int32) * τ.1 9 + 3) = nI (4 * cur + 3) from l3]; exact hM2
    have hX3 : fRoom_readRef (2 * n) σ' (σ'.1 11) 3 = some (r3, σ2) := by rw [d4]; exact hX2
    rw [hX3, Option.bind_some] at hX0
    have l2' : ((4 : Int32) * τ.1 9 + 3).toNatClampNeg = 4 * cur + 3 := l2
    by_cases hl : τ'.2 9 (4 * cur + 3) = -1
    · have hn := m_readNone (τ := τ') (show ix ((4 : Int32) * τ.1 9 + 3) 960 from l1) (by rw [l2']; exact hl)
      rw [hr2, if_pos a2] at hn
      have e1 : b2 = 1 := congrArg Prod.fst (Option.some.inj hn)
      have e2 : τ2 = τ' := congrArg Prod.snd (Option.some.inj hn)
      subst e2
      rw [if_pos (by rw [l2']; exact hl)] at hM0
      rcases hcase2 with ⟨g1, g2, g3, g4, -⟩ | ⟨g1, g2, g3, hM3, hcv2⟩
      · rw [e1] at g3; exact absurd g3 (by decide)
      · have hr3 : r3 = -1 := by
          rcases hcv2 with hc | ⟨t, t1, t2, -⟩
          · exact hc.2
          · rw [hl] at t2; exact absurd t2.symm (nI_m1 (by omega))
        refine ⟨(upd (upd σ2.1 1 1) 2 (τ2.2 10 (4 * cur + b)), σ2.2), (upd (upd τ2.1 12 1) 13 (τ2.2 10 (4 * cur + b)), τ2.2), ?_, ?_, ?_⟩
        · rw [xd_13, hX0]
          show (if σ2.1 20 = 0 then _ else _) = _
          rw [if_pos g1, mid_cint hM3 (show b < 4 by omega), Option.bind_some]
          show (if r3 = -1 then _ else _) = _
          rw [if_pos hr3]
        · rw [md_13, hM0, k2]
        · obtain ⟨s1, s2, s3, s4, s5, s6⟩ := hM3
          exact ⟨s1, ad2, cur, sk, dl, HP.weak (run := True) s2 (fun _ => trivial), Or.inr (Or.inr ⟨s3, Or.inl rfl, rfl, rfl⟩)⟩
    · rw [if_neg (by rw [l2']; exact hl), hr2, Option.bind_some] at hM0
      rcases hcase2 with ⟨g1, g2, g3, g4, hP⟩ | ⟨g1, g2, g3, hM3, hcv2⟩
      · refine ⟨σ2, τ2, ?_, ?_, hP⟩
        · rw [xd_13, hX0]
          show (if σ2.1 20 = 0 then _ else _) = _
          rw [if_neg (by rw [g1]; decide)]
        · rw [md_13, hM0, if_pos g3]
      · rcases hcv2 with hc | ⟨t, t1, t2, t3, t4, t5⟩
        · exact absurd hc.1 hl
        have hl2 : τ2.2 9 (4 * cur + 3) = nI t := by rw [sb2.2.2.1]; exact t2
        obtain ⟨hM4, hpl⟩ := mid_pop hM3 hl2 t1 t3
        obtain ⟨w1, w2, w3⟩ := o_ix t1 (show 2 < 4 by omega)
        obtain ⟨σ5, hX5, hM5⟩ := mid_csetR (x := 2) hM4 (by omega) (hcv.to (τ' := (upd τ2.1 9 (nI t), τ2.2)) (ad' := ad2) (o' := t) (j' := 2) ha (by omega) hag2 sb2.1)
        obtain ⟨σ6, hX6, -, -, -, hM6⟩ := mid_csetI (x := 2) hM5 (by omega) (τ2.2 10 (4 * cur + b))
        refine ⟨σ6, _, ?_, ?_, hM6.post (fun _ => pl_int (pl_ref hpl) (by omega))⟩
        · rw [xd_13, hX0]
          show (if σ2.1 20 = 0 then _ else _) = _
          rw [if_pos g1, mid_cint hM3 (show b < 4 by omega), Option.bind_some]
          show (if r3 = -1 then _ else _) = _
          have hb3 := (hp_obj hM3.2.1 t1 (by rcases t3 with h | h <;> rw [h] <;> decide))
          rw [if_neg (by rw [t4]; exact nI_m1 (by omega)), t4]
          have hX5' : fRoom_setRef (2 * n) (upd σ2.1 11 (nI (ad2 t)), σ2.2) (nI (ad2 t)) 2 r = some σ5 := hX5
          rw [hX5', Option.bind_some]
          exact hX6
        · rw [md_13, hM0, if_neg (show ¬ b2 = 0 by rw [g3]; decide)]
          show (if ix ((4 : Int32) * τ2.2 9 ((4 : Int32) * τ.1 9 + 3).toNatClampNeg + 2) 960 then some (upd τ2.1 9 (((4 : Int32) * τ2.2 9 ((4 : Int32) * τ.1 9 + 3).toNatClampNeg) / 4), va_up (va_up τ2.2 9 (upd (τ2.2 9) ((4 : Int32) * τ2.2 9 ((4 : Int32) * τ.1 9 + 3).toNatClampNeg + 2).toNatClampNeg (τ2.2 9 ((4 : Int32) * τ.1 9 + nI a).toNatClampNeg))) 10 (upd (τ2.2 10) ((4 : Int32) * τ2.2 9 ((4 : Int32) * τ.1 9 + 3).toNatClampNeg + 2).toNatClampNeg (τ2.2 10 ((4 : Int32) * τ.1 9 + nI b).toNatClampNeg))) else none) = _
          rw [l2', hl2, gd (show ix ((4 : Int32) * nI t + 2) 960 from w1), show ((4 : Int32) * nI t + 2).toNatClampNeg = 4 * t + 2 from w2, i2, k2, show ((4 : Int32) * nI t) / 4 = nI t by rw [show (4 : Int32) = nI 4 from rfl, pk_mul, pk_div (by omega) (by decide) (by decide)]; congr 1; omega]
          have hq : τ2.2 9 (4 * cur + a) = τ.2 9 (4 * cur + a) := by rw [sb2.2.2.1, sb.2.2.1]
          rw [hq]
          rfl
end OP3
