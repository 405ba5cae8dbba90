/-! seal -/
section SE
variable {n nk nf op pc : Nat} {σ τ : St}
theorem two_loops {f g : Int32 × St → Option (Nat × (Int32 × St))} {l : Nat} {Ok : Nat → Prop} (he : f (nI l, σ) = some (0, (nI l, σ)) ∧ g (nI l, τ) = some (0, (nI l, τ))) (hs : ∀ i, i < l → (Ok i ∧ f (nI i, σ) = some (1, (nI (i + 1), σ)) ∧ g (nI i, τ) = some (1, (nI (i + 1), τ))) ∨ (f (nI i, σ) = some (2, (nI i, σ)) ∧ g (nI i, τ) = some (2, (nI i, τ)))) :
    ∀ (K i : Nat), i ≤ l → l - i < K → ∃ c v, (c = 0 ∨ c = 2) ∧ rbLoop f K (nI i, σ) = some (c, (v, σ)) ∧ rbLoop g K (nI i, τ) = some (c, (v, τ)) ∧ (c = 0 → ∀ k, i ≤ k → k < l → Ok k) := by
  intro K
  induction K with
  | zero => intro i _ h; omega
  | succ K ih =>
    intro i hi hK
    by_cases hil : i = l
    · subst hil
      exact ⟨0, nI i, Or.inl rfl, rbLoop_end he.1 (by decide), rbLoop_end he.2 (by decide), fun _ k h1 h2 => absurd h2 (by omega)⟩
    · rcases hs i (by omega) with ⟨o1, o2, o3⟩ | ⟨o2, o3⟩
      · obtain ⟨c, v, h1, h2, h3, h4⟩ := ih (i + 1) (by omega) (by omega)
        refine ⟨c, v, h1, by rw [rbLoop_go o2]; exact h2, by rw [rbLoop_go o3]; exact h3, fun hc k hk1 hk2 => ?_⟩
        by_cases hki : k = i
        · subst hki; exact o1
        · exact h4 hc k (by omega) hk2
      · exact ⟨2, nI i, Or.inr rfl, rbLoop_end o2 (by decide), rbLoop_end o3 (by decide), fun hc => absurd hc (by decide)⟩
theorem x_inside1 {L : Nat} {N i I o z : Int32} (hlt : ¬ N ≤ i) (hI : σ.1 7 * 12 + i = I) (iI : ix I 72) (ho : σ.2 6 I.toNatClampNeg = o) (hz : σ.2 9 I.toNatClampNeg = z) : fMeths_staysInside_B12 L N (i, σ) = if (o = 9 ∨ o = 10 ∨ o = 11) ∧ ¬ z < N then some (2, (i, σ)) else some (1, (i + 1, σ)) := by
  subst hI ho hz
  unfold fMeths_staysInside_B12 fMeths_find fMeths_staysInside_B12_J60 fMeths_staysInside_B12_J65 fMeths_staysInside_B12_J84
  simp only [if_neg hlt, Option.bind_some, if_pos iI, no10, ↓reduceIte]
  by_cases c1 : σ.2 6 (σ.1 7 * 12 + i).toNatClampNeg = 9
  · by_cases c : σ.2 9 (σ.1 7 * 12 + i).toNatClampNeg < N
    · simp only [c1, c, not_true, and_false, ↓reduceIte]
    · simp only [c1, c, true_or, not_false_iff, and_self, ↓reduceIte]
  by_cases c2 : σ.2 6 (σ.1 7 * 12 + i).toNatClampNeg = 10
  · by_cases c : σ.2 9 (σ.1 7 * 12 + i).toNatClampNeg < N
    · rw [if_neg c1, if_pos c2, if_pos c, if_neg (fun e => e.2 c)]
    · rw [if_neg c1, if_pos c2, if_neg c, if_pos ⟨Or.inr (Or.inl c2), c⟩]
  by_cases c3 : σ.2 6 (σ.1 7 * 12 + i).toNatClampNeg = 11
  · by_cases c : σ.2 9 (σ.1 7 * 12 + i).toNatClampNeg < N
    · rw [if_neg c1, if_neg c2, if_pos c3, if_pos c, if_neg (fun e => e.2 c)]
    · rw [if_neg c1, if_neg c2, if_pos c3, if_neg c, if_pos ⟨Or.inr (Or.inr c3), c⟩]
  · rw [if_neg c1, if_neg c2, if_neg c3, if_neg]
    rintro ⟨e | e | e, -⟩
    · exact c1 e
    · exact c2 e
    · exact c3 e
theorem m_inside1 {G N i W o z : Int32} (iG : ix G 6) (hN : τ.2 4 G.toNatClampNeg = N) (hlt : ¬ N ≤ i) (hW : (48 : Int32) * G + (4 : Int32) * i = W) (iW : ix W 288) (iW3 : ix (W + 3) 288) (ho : τ.2 5 W.toNatClampNeg = o) (hz : τ.2 5 (W + 3).toNatClampNeg = z) : fMod_seal_B85 G (i, τ) = if ¬ o < 9 ∧ ¬ 11 < o ∧ ¬ z < N then some (2, (i, τ)) else some (1, (i + 1, τ)) := by
  subst hN hW ho hz
  unfold fMod_seal_B85 fMod_seal_B85_J150
  simp only [if_pos iG, if_neg hlt, if_pos iW, if_pos iW3]
  by_cases c1 : τ.2 5 ((48 : Int32) * G + (4 : Int32) * i).toNatClampNeg < 9
  · rw [if_pos c1, if_neg (fun e => e.1 c1)]
  by_cases c2 : 11 < τ.2 5 ((48 : Int32) * G + (4 : Int32) * i).toNatClampNeg
  · rw [if_neg c1, if_pos c2, if_neg (fun e => e.2.1 c2)]
  by_cases c3 : τ.2 5 ((48 : Int32) * G + (4 : Int32) * i + 3).toNatClampNeg < τ.2 4 G.toNatClampNeg
  · rw [if_neg c1, if_neg c2, if_pos c3, if_neg (fun e => e.2.2 c3)]
  · rw [if_neg c1, if_neg c2, if_neg c3, if_pos ⟨c1, c2, c3⟩]
theorem m_seal1 {G N H W o : Int32} (h4 : ¬ τ.1 4 = 0) (hG : τ.1 3 - 1 = G) (iG : ix G 6) (hN : τ.2 4 G.toNatClampNeg = N) (hH : τ.2 3 G.toNatClampNeg = H) (hW : ((48 : Int32) * G + (4 : Int32) * N) - 4 = W) (iW : ¬ N = 0 → ix W 288) (ho : τ.2 5 W.toNatClampNeg = o) : fMod_seal τ = if N = 0 then some (0, τ) else (if H < N then (if o = 9 ∨ o = 13 ∨ o = 14 then fMod_seal_J83 τ G else some (0, τ)) else some (0, τ)) := by
  subst hG hN hH hW ho
  unfold fMod_seal
  by_cases c0 : τ.2 4 (τ.1 3 - 1).toNatClampNeg = 0
  · rw [if_neg h4, gd iG, if_pos c0, if_pos c0]
  · simp only [if_neg h4, if_pos iG, if_neg c0, if_pos (iW c0)]
    by_cases c1 : τ.2 3 (τ.1 3 - 1).toNatClampNeg < τ.2 4 (τ.1 3 - 1).toNatClampNeg
    · rw [if_pos c1, if_pos c1]
      by_cases d1 : τ.2 5 (((48 : Int32) * (τ.1 3 - 1) + (4 : Int32) * τ.2 4 (τ.1 3 - 1).toNatClampNeg) - 4).toNatClampNeg = 9
      · rw [if_pos d1, if_pos (Or.inl d1)]
      by_cases d2 : τ.2 5 (((48 : Int32) * (τ.1 3 - 1) + (4 : Int32) * τ.2 4 (τ.1 3 - 1).toNatClampNeg) - 4).toNatClampNeg = 13
      · rw [if_neg d1, if_pos d2, if_pos (Or.inr (Or.inl d2))]
      by_cases d3 : τ.2 5 (((48 : Int32) * (τ.1 3 - 1) + (4 : Int32) * τ.2 4 (τ.1 3 - 1).toNatClampNeg) - 4).toNatClampNeg = 14
      · rw [if_neg d1, if_neg d2, if_pos d3, if_pos (Or.inr (Or.inr d3))]
      · rw [if_neg d1, if_neg d2, if_neg d3, if_neg]
        rintro (e | e | e)
        · exact d1 e
        · exact d2 e
        · exact d3 e
    · rw [if_neg c1, if_neg c1]
theorem x_ends1 {L : Nat} {G N I o : Int32} (hG : σ.1 7 = G) (iG : ix G 6) (hN : σ.2 5 G.toNatClampNeg = N) (hI : G * 12 + (N - 1) = I) (iI : ¬ N = 0 → ix I 72) (ho : σ.2 6 I.toNatClampNeg = o) : fMeths_endsWell L σ = if N = 0 then some (0, σ) else (if o = 9 ∨ o = 13 ∨ o = 14 then some (1, σ) else some (0, σ)) := by
  subst hG hN hI ho
  unfold fMeths_endsWell fMeths_find
  rw [gd iG]
  by_cases c0 : σ.2 5 (σ.1 7).toNatClampNeg = 0
  · rw [if_pos c0, if_pos c0]
  · simp only [if_neg c0, Option.bind_some, if_pos (iI c0)]
    by_cases d1 : σ.2 6 (σ.1 7 * 12 + (σ.2 5 (σ.1 7).toNatClampNeg - 1)).toNatClampNeg = 9
    · rw [if_pos d1, if_pos (Or.inl d1)]
    by_cases d2 : σ.2 6 (σ.1 7 * 12 + (σ.2 5 (σ.1 7).toNatClampNeg - 1)).toNatClampNeg = 13
    · rw [if_neg d1, if_pos d2, if_pos (Or.inr (Or.inl d2))]
    by_cases d3 : σ.2 6 (σ.1 7 * 12 + (σ.2 5 (σ.1 7).toNatClampNeg - 1)).toNatClampNeg = 14
    · rw [if_neg d1, if_neg d2, if_pos d3, if_pos (Or.inr (Or.inr d3))]
    · rw [if_neg d1, if_neg d2, if_neg d3, if_neg]
      rintro (e | e | e)
      · exact d1 e
      · exact d2 e
      · exact d3 e
theorem seal_ok (h : RR n nk nf op pc σ τ) : Do n (fMach_seal (2 * n) σ) (fMod_seal τ) := by
  have h0 := h
  obtain ⟨⟨h1, ⟨r1, r2, r3, r4, r5, r6, r7, r8⟩, h3⟩, hh⟩ := h
  have same : Do n (some (0, σ)) (some (0, τ)) := ⟨_, _, rfl, rfl, rfl, nk, nf, op, pc, h0⟩
  have hX0 : ∀ p, (p.1 = 0 ∨ p.1 = 1) → fMeths_finish (2 * n) σ = some p → fMach_seal (2 * n) σ = some p := by
    intro p hp hf
    unfold fMach_seal
    rw [hf, Option.bind_some, if_pos hp]
  by_cases ho : op = 0
  · subst ho
    rw [hX0 (0, σ) (Or.inl rfl) (by unfold fMeths_finish; rw [if_pos (by rw [r2]; rfl)]), show fMod_seal τ = some (0, τ) by unfold fMod_seal; rw [if_pos (by rw [r3]; rfl)]]
    exact same
  have ho1 : op = 1 := by omega
  subst ho1
  have x8 : ¬ σ.1 8 = 0 := by rw [r2]; decide
  have x4' : ¬ τ.1 4 = 0 := by rw [r3]; decide
  have hG : τ.1 3 - 1 = nI nf := by rw [r4, show (1 : Int32) = nI 1 from rfl, pk_sub (by omega)]; rfl
  have iG : ix (nI nf) 6 := ix_n (by omega) (by omega)
  have tG : (nI nf).toNatClampNeg = nf := nI_tc (by omega)
  obtain ⟨a1, a2, a3, a4, a5, a6⟩ := r7 nf (by omega)
  by_cases hl0 : lenN τ nf = 0
  · have e0 : nI (lenN τ nf) = 0 := by rw [hl0]; rfl
    have hM : fMod_seal τ = some (0, τ) := by
      unfold fMod_seal
      rw [if_neg x4', hG, gd iG, if_pos (by rw [tG, a5]; exact e0)]
    have hE : fMeths_endsWell (2 * n) σ = some (0, σ) := by
      unfold fMeths_endsWell
      rw [r1, gd iG, if_pos (by rw [tG, a4]; exact e0)]
    rw [hX0 (0, σ) (Or.inl rfl) (by unfold fMeths_finish; rw [if_neg x8, hE, Option.bind_some, if_pos (show ((0 : Int32), σ).1 = 0 from rfl)]), hM]
    exact same
  have hN0 : ¬ nI (lenN τ nf) = 0 := by rw [show (0 : Int32) = nI 0 from rfl, nI_eq' (by omega) (by omega)]; exact hl0
  have hWl : ((48 : Int32) * nI nf + (4 : Int32) * nI (lenN τ nf)) - 4 = nI (48 * nf + 4 * (lenN τ nf - 1)) := by
    rw [show (48 : Int32) = nI 48 from rfl, show (4 : Int32) = nI 4 from rfl, pk_mul, pk_mul, nI_add, pk_sub (by omega)]; congr 1; omega
  have hM0 := m_seal1 (τ := τ) (o := τ.2 5 (48 * nf + 4 * (lenN τ nf - 1))) x4' hG iG (by rw [tG]; exact a5) (by rw [tG]) hWl (fun _ => ix_n (by omega) (by omega)) (by rw [nI_tc (by omega)])
  have hE0 := x_ends1 (L := 2 * n) (σ := σ) (N := nI (lenN τ nf)) (I := nI (12 * nf + (lenN τ nf - 1))) (o := τ.2 5 (48 * nf + 4 * (lenN τ nf - 1))) r1 iG (by rw [tG]; exact a4) (by rw [show (1 : Int32) = nI 1 from rfl, pk_sub (by omega), show (12 : Int32) = nI 12 from rfl, pk_mul, nI_add]; congr 1; omega) (fun _ => ix_n (by omega) (by omega)) (by rw [nI_tc (by omega)]; exact (a6 (lenN τ nf - 1) (by omega)).1)
  rw [if_neg hN0] at hM0 hE0
  have hF0 : fMeths_finish (2 * n) σ = ((fMeths_endsWell (2 * n) σ).bind fun p8 => if p8.1 = 0 then (some (0, p8.2)) else ((fMeths_staysInside (2 * n) p8.2).bind fun p15 => if p15.1 = 0 then (some (0, p15.2)) else (some (1, (upd (upd p15.2.1 8 0) 7 ((p15.2.1 7) + 1), p15.2.2))))) := by
    unfold fMeths_finish; rw [if_neg x8]
  -- the loops
  obtain ⟨c, v, hc, l1, l2, l3⟩ := two_loops (f := fMeths_staysInside_B12 (2 * n) (nI (lenN τ nf))) (g := fMod_seal_B85 (nI nf)) (l := lenN τ nf) (σ := σ) (τ := τ) (Ok := fun k => (τ.2 5 (48 * nf + 4 * k) = nI 9 ∨ τ.2 5 (48 * nf + 4 * k) = nI 10 ∨ τ.2 5 (48 * nf + 4 * k) = nI 11) → τ.2 5 (48 * nf + 4 * k + 3) < nI (lenN τ nf)) (by
    refine ⟨?_, ?_⟩
    · unfold fMeths_staysInside_B12
      exact if_pos (Int32.le_refl _)
    · unfold fMod_seal_B85
      rw [gd iG]
      exact if_pos (by show τ.2 4 (nI nf).toNatClampNeg ≤ nI (lenN τ nf); rw [tG, a5]; exact Int32.le_of_eq (by rw [← a5])))
    (by
    intro i hi
    obtain ⟨b1, b2, b3, b4, b5⟩ := a6 i hi
    have hlt : ¬ nI (lenN τ nf) ≤ nI i := by rw [nI_le' (by omega) (by omega)]; omega
    have hx := x_inside1 (L := 2 * n) (σ := σ) (N := nI (lenN τ nf)) (i := nI i) (I := nI (12 * nf + i)) (o := τ.2 5 (48 * nf + 4 * i)) (z := τ.2 5 (48 * nf + 4 * i + 3)) hlt (by rw [r1, show (12 : Int32) = nI 12 from rfl, pk_mul, nI_add]; congr 1; omega) (ix_n (by omega) (by omega)) (by rw [nI_tc (by omega)]; exact b1) (by rw [nI_tc (by omega)]; exact b4)
    have hW : (48 : Int32) * nI nf + (4 : Int32) * nI i = nI (48 * nf + 4 * i) := by rw [show (48 : Int32) = nI 48 from rfl, show (4 : Int32) = nI 4 from rfl, pk_mul, pk_mul, nI_add]
    have hW3 : nI (48 * nf + 4 * i) + 3 = nI (48 * nf + 4 * i + 3) := by rw [show (3 : Int32) = nI 3 from rfl, nI_add]
    have hm := m_inside1 (τ := τ) (G := nI nf) (N := nI (lenN τ nf)) (i := nI i) (W := nI (48 * nf + 4 * i)) (o := τ.2 5 (48 * nf + 4 * i)) (z := τ.2 5 (48 * nf + 4 * i + 3)) iG (by rw [tG]; exact a5) hlt hW (ix_n (by omega) (by omega)) (by rw [hW3]; exact ix_n (by omega) (by omega)) (by rw [nI_tc (by omega)]) (by rw [hW3, nI_tc (by omega)])
    rw [nI_1] at hx hm
    obtain ⟨o, o1, o2, -⟩ := b5
    have hj : (τ.2 5 (48 * nf + 4 * i) = 9 ∨ τ.2 5 (48 * nf + 4 * i) = 10 ∨ τ.2 5 (48 * nf + 4 * i) = 11) ↔ (9 ≤ o ∧ o ≤ 11) := by
      rw [o2, show (9 : Int32) = nI 9 from rfl, show (10 : Int32) = nI 10 from rfl, show (11 : Int32) = nI 11 from rfl, nI_eq' (by omega) (by omega), nI_eq' (by omega) (by omega), nI_eq' (by omega) (by omega)]
      omega
    have hj2 : (¬ τ.2 5 (48 * nf + 4 * i) < 9 ∧ ¬ 11 < τ.2 5 (48 * nf + 4 * i)) ↔ (9 ≤ o ∧ o ≤ 11) := by
      rw [o2, show (9 : Int32) = nI 9 from rfl, show (11 : Int32) = nI 11 from rfl, nI_lt' (by omega) (by omega), nI_lt' (by omega) (by omega)]
      omega
    by_cases hjj : 9 ≤ o ∧ o ≤ 11
    · by_cases hz : τ.2 5 (48 * nf + 4 * i + 3) < nI (lenN τ nf)
      · refine Or.inl ⟨fun _ => hz, ?_, ?_⟩
        · rw [hx, if_neg (fun e => e.2 hz)]
        · rw [hm, if_neg (fun e => e.2.2 hz)]
      · refine Or.inr ⟨?_, ?_⟩
        · rw [hx, if_pos ⟨hj.mpr hjj, hz⟩]
        · rw [hm, if_pos ⟨(hj2.mpr hjj).1, (hj2.mpr hjj).2, hz⟩]
    · refine Or.inl ⟨fun e => absurd (hj.mp e) hjj, ?_, ?_⟩
      · rw [hx, if_neg (fun e => hjj (hj.mp e.1))]
      · rw [hm, if_neg (fun e => hjj (hj2.mp ⟨e.1, e.2.1⟩))])
    rbF 0 (by omega) (by rw [rbF_val]; omega)
  have hIn : fMeths_staysInside (2 * n) σ = if c = 0 then (if nI (lenN τ nf) ≤ τ.2 3 nf then some (0, σ) else some (1, σ)) else some (0, σ) := by
    unfold fMeths_staysInside
    rw [r1, gd iG, tG, a4, show rbLoop (fMeths_staysInside_B12 (2 * n) (nI (lenN τ nf))) rbF (0, σ) = some (c, (v, σ)) from l1, Option.bind_some]
    show (if c = 0 then (if ix (σ.1 7) 6 then (if nI (lenN τ nf) ≤ σ.2 4 (σ.1 7).toNatClampNeg then some (0, σ) else some (1, σ)) else none) else some (0, σ)) = _
    rw [r1, gd iG, tG, a1]
  have hJ : fMod_seal_J83 τ (nI nf) = if c = 0 then some (1, (upd τ.1 4 0, τ.2)) else some (0, τ) := by
    unfold fMod_seal_J83
    rw [show rbLoop (fMod_seal_B85 (nI nf)) rbF (0, τ) = some (c, (v, τ)) from l2, Option.bind_some]
  by_cases hlast : τ.2 5 (48 * nf + 4 * (lenN τ nf - 1)) = 9 ∨ τ.2 5 (48 * nf + 4 * (lenN τ nf - 1)) = 13 ∨ τ.2 5 (48 * nf + 4 * (lenN τ nf - 1)) = 14
  · rw [if_pos hlast] at hM0 hE0
    rw [hE0, Option.bind_some, if_neg (show ¬ ((1 : Int32), σ).1 = 0 from no10), show fMeths_staysInside (2 * n) ((1 : Int32), σ).2 = _ from hIn] at hF0
    rw [hJ] at hM0
    by_cases hcz : c = 0
    · rw [if_pos hcz] at hF0 hM0
      by_cases hh : τ.2 3 nf < nI (lenN τ nf)
      · rw [if_pos hh] at hM0
        rw [if_neg (Int32.not_le.mpr hh), Option.bind_some, if_neg (show ¬ ((1 : Int32), σ).1 = 0 from no10)] at hF0
        refine ⟨_, _, hX0 _ (Or.inr rfl) hF0, hM0, rfl, nk, nf + 1, 0, pc, rr_keep h0 ⟨?_, ⟨?_, rfl, rfl, r4, by omega, by omega, fun m hm => r7 m (by omega), ?_⟩, h3⟩ ?_ rfl (Nat.le_refl _) (by omega) (by omega) ?_ (fun _ _ => rfl) (fun _ _ => ⟨rfl, rfl⟩) (fun _ _ => rfl)⟩
        · obtain ⟨k1, k2, k3, k4⟩ := h1
          refine ⟨k1, k2, k3, fun k hk => ⟨(k4 k hk).1, (k4 k hk).2.1, fun s hs => ⟨((k4 k hk).2.2 s hs).1, ?_⟩⟩⟩
          rcases ((k4 k hk).2.2 s hs).2 with e | ⟨m, m1, m2⟩
          · exact Or.inl e
          · exact Or.inr ⟨m, by omega, m2⟩
        · show σ.1 7 + 1 = _
          rw [r1, nI_1]
        · intro m hm
          by_cases hmn : m = nf
          · subst hmn
            refine ⟨(show 1 ≤ lenN τ m by omega), hlast, fun k hk hj => ?_, ?_⟩
            · have hk' : k < lenN τ m := hk
              have := l3 hcz k (by omega) hk' hj
              obtain ⟨-, -, -, -, o, o1, o2, -, -, -, -, o7, -⟩ := a6 k hk'
              have hj' : (τ.2 5 (48 * m + 4 * k) = nI 9 ∨ τ.2 5 (48 * m + 4 * k) = nI 10 ∨ τ.2 5 (48 * m + 4 * k) = nI 11) := hj
              rw [o2, nI_eq' (by omega) (by omega), nI_eq' (by omega) (by omega), nI_eq' (by omega) (by omega)] at hj'
              obtain ⟨z, z1, z2⟩ := o7 (by omega)
              rw [z2, nI_lt' (by omega) (by omega)] at this
              exact ⟨z, this, z2⟩
            · rcases a2 with e | ⟨hd, d1, d2⟩
              · exact Or.inl e
              · rw [d2, nI_lt' (by omega) (by omega)] at hh
                exact Or.inr ⟨hd, hh, d2⟩
          · exact r8 m (by omega)
        · intro j _ h7 h8
          show upd (upd σ.1 8 0) 7 _ j = _
          rw [upd_n h7, upd_n h8]
        · intro j _ _ h4; exact upd_n h4
      · rw [if_neg hh] at hM0
        rw [if_pos (Int32.not_lt.mp hh), Option.bind_some, if_pos (show ((0 : Int32), σ).1 = 0 from rfl)] at hF0
        rw [hX0 _ (Or.inl rfl) hF0, hM0]; exact same
    · rw [if_neg hcz] at hF0 hM0
      rw [Option.bind_some, if_pos (show ((0 : Int32), σ).1 = 0 from rfl)] at hF0
      rw [hX0 _ (Or.inl rfl) hF0, hM0]
      by_cases hh : τ.2 3 nf < nI (lenN τ nf)
      · rw [if_pos hh]; exact same
      · rw [if_neg hh]; exact same
  · rw [if_neg hlast] at hM0 hE0
    rw [hE0, Option.bind_some, if_pos (show ((0 : Int32), σ).1 = 0 from rfl)] at hF0
    rw [hX0 _ (Or.inl rfl) hF0, hM0]
    by_cases hh : τ.2 3 nf < nI (lenN τ nf)
    · rw [if_pos hh]; exact same
    · rw [if_neg hh]; exact same
end SE
