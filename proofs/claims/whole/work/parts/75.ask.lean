/-! questions -/
section ASK
variable {n nk nf op pc : Nat} {run : Prop} {σ τ : St} {ad : Nat → Nat} {cur dl o j : Nat} {sk : Nat → Nat}
abbrev Ask (n : Nat) (σ τ : St) (X M : Option (Int32 × St)) : Prop := ∃ v, X = some (v, σ) ∧ M = some (v, τ)
theorem state_ok (h : RR n nk nf op pc σ τ) : Ask n σ τ (fMach_state (2 * n) σ) (fMod_state τ) := ⟨τ.1 12, by unfold fMach_state; rw [h.ph], rfl⟩
theorem work_ok (h : RR n nk nf op pc σ τ) : Ask n σ τ (fMach_work (2 * n) σ) (fMod_work τ) := ⟨τ.1 17, by unfold fMach_work; rw [h.1.2.2.2.2.2.2.1], rfl⟩
theorem flips_ok (h : RR n nk nf op pc σ τ) : Ask n σ τ (fMach_flips (2 * n) σ) (fMod_flips τ) := ⟨τ.1 14, by unfold fMach_flips; rw [h.wk.2], rfl⟩
theorem result_ok (h : RR n nk nf op pc σ τ) : Ask n σ τ (fMach_result (2 * n) σ) (fMod_result τ) := by
  refine ⟨σ.1 2, rfl, ?_⟩
  unfold fMod_result
  rcases h.2 with h | ⟨ad, cur, sk, dl, -, h | h | h⟩
  · rw [h.2.1, if_neg (by decide), if_neg (by decide), h.2.2.1]
  · rw [h.2.1, if_neg (by decide), if_neg (by decide), h.2.2.2]
  · rw [h.2.1, if_neg (by decide), if_neg (by decide), h.2.2.2.1]
  · rw [h.2.2.2]
    rcases h.2.1 with e | e
    · rw [if_pos e]
    · rw [if_neg (by rw [e]; decide), if_pos e]
theorem shown_ok (h : RR n nk nf op pc σ τ) (x : Int32) : Ask n σ τ (fMach_shown (2 * n) σ x) (fMod_shown τ x) := by
  obtain ⟨k, s1, s2, s3⟩ := h.1.2.2.1
  unfold fMach_shown fMod_shown
  by_cases h1 : x = -1
  · exact ⟨nI k, by rw [if_pos h1, s1], by rw [if_pos h1, s2]⟩
  rw [if_neg h1, if_neg h1, show (8 : Int32) = nI 8 from rfl]
  rcases m_below τ x (N := 8) (by omega) with ⟨b1, b2⟩ | ⟨b1, b2, b3, j, b4, b5⟩
  · refine ⟨0, ?_, ?_⟩
    · by_cases hc : x < 0
      · rw [if_pos hc]
      · rw [if_neg hc, if_pos (b2.resolve_left hc)]
    · rw [b1, Option.bind_some]; rfl
  · rw [if_neg b2, if_neg b3, b1, Option.bind_some]
    show Ask n σ τ _ (if (1 : Int32) = 0 then _ else (if τ.1 15 ≤ x then some (0, τ) else (if ix x 8 then some (τ.2 14 x.toNatClampNeg, τ) else none)))
    rw [if_neg (show ¬ (1 : Int32) = 0 by decide), s1, s2]
    by_cases hc : x < nI k
    · rw [if_pos hc, if_neg (Int32.not_le.mpr hc)]
      unfold fMach_slotOfShown
      rw [Option.bind_some]
      subst b5
      have hjk : j < k := by
        refine Classical.byContradiction fun hn => ?_
        rw [nI_lt' (by omega) (by omega)] at hc
        exact hn hc
      have e : (nI k - 1 - nI j) &&& 7 = nI ((k - 1 - j) % 8) := by
        rw [show (1 : Int32) = nI 1 from rfl, pk_sub (by omega), pk_sub (by omega), nI_and7]
      refine ⟨τ.2 14 j, ?_, ?_⟩
      · show (if ix ((nI k - 1 - nI j) &&& 7) 8 then some (σ.2 0 ((nI k - 1 - nI j) &&& 7).toNatClampNeg, σ) else none) = _
        rw [e, gd (ix_n (by omega) (by omega)), nI_tc (by omega), s3 j (by omega) hjk]
      · rw [gd (ix_n b4 (by omega)), nI_tc (by omega)]
    · rw [if_neg hc, if_pos (Int32.not_lt.mp hc)]
      exact ⟨0, rfl, rfl⟩
theorem used_ok (h : RR n nk nf op pc σ τ) : Ask n σ τ (fMach_used (2 * n) σ) (fMod_used τ) := by
  refine ⟨τ.1 5, ?_, rfl⟩
  have hph := h.ph
  unfold fMach_used
  rcases h.2 with h | ⟨ad, cur, sk, dl, hH, hC⟩
  · rw [if_pos h.1, h.2.2.2.2.2.2.2.1]
  · have h4 : ¬ σ.1 1 = 4 := by
      rcases hC with h | h | h
      · rw [h.2.2.1]; decide
      · rw [h.2.2.1]; decide
      · rw [h.2.2.1]; rcases h.2.1 with e | e <;> rw [e] <;> decide
    rw [if_neg h4]
    obtain ⟨⟨fr, ro, bs, re, ns, rl, so, cc, hR⟩, -⟩ := hH
    obtain ⟨g1, g2, g3, g4, g5, g6, g7, g8, g9, g10, g11⟩ := hR.2.1
    unfold fRoom_usedCells
    rw [x_free g3 g4 g8, Option.bind_some, Option.bind_some, g5, g10]
    show some (nI n - nI (ns - re), σ) = _
    rw [pk_sub (by omega)]
theorem Ctl.no4 (hC : Ctl σ τ cur) : ¬ σ.1 1 = 4 ∧ ¬ τ.1 12 = 4 := by
  rcases hC with h | h | h
  · rw [h.2.2.1, h.2.1]; decide
  · rw [h.2.2.1, h.2.1]; decide
  · rw [h.2.2.1]; rcases h.2.1 with e | e <;> rw [e] <;> decide
theorem grey_ok (h : RR n nk nf op pc σ τ) : Ask n σ τ (fMach_grey (2 * n) σ) (fMod_grey τ) := by
  have hX : fMach_grey (2 * n) σ = some (σ.1 13 - σ.1 14, σ) := rfl
  rw [hX]
  unfold fMod_grey
  rcases h.2 with h | ⟨ad, cur, sk, dl, hH, hC⟩
  · obtain ⟨-, -, -, h1, h2, h3, h4, -⟩ := h
    refine ⟨0, by rw [h1, Int32.sub_self], ?_⟩
    have hl : rbLoop fMod_grey_B7 rbF (0, τ.1 7, τ) = some (0, (0, τ.1 7, τ)) := by
      refine rbLoop_end (k := 4095) (c := 0) ?_ (by decide)
      unfold fMod_grey_B7
      show (if τ.1 6 ≤ τ.1 7 then _ else _) = _
      rw [if_pos (by rw [h2, h3]; decide)]
    rw [hl, Option.bind_some]
    show some ((0 : Int32) - τ.1 8, τ) = _
    rw [h4]; rfl
  · obtain ⟨⟨fr, ro, bs, re, ns, rl, so, cc, hR⟩, -⟩ := hH
    obtain ⟨⟨hn1, hn2, hf6, hK⟩, ⟨g1, g2, g3, g4, g5, g6, g7, g8, g9, g10, g11⟩, hO, hD, hF, hRr, hS, -⟩ := hR
    obtain ⟨s1, s2, s3, s4, s5, s6, s7⟩ := hS
    have hob : ∀ i, i < rl → ro i < 240 ∧ ObT τ nk nf (ro i) ∧ τ.2 11 i = nI (ro i) := fun i hi => by
      obtain ⟨a, b, c, -⟩ := hRr.1 i hi
      exact ⟨a, (hO (ro i) a (by rw [b]; decide)).2.1, c⟩
    have hge := sumTo_ge (f := rsz τ ro) rl (fun i hi => (sz_le hK (hob i hi).2.1).1)
    have hre := hRr.2.1
    have hrl : rl ≤ 120 := by rcases g1 with e | e <;> omega
    have hmono : ∀ i, so ≤ i → i ≤ rl → sumTo (rsz τ ro) so ≤ sumTo (rsz τ ro) i ∧ sumTo (rsz τ ro) i ≤ sumTo (rsz τ ro) rl := fun i h1 h2 => ⟨sumTo_mono i h1, sumTo_mono rl h2⟩
    have hcnt := rbLoop_count (f := fMod_grey_B7) (fun i => (nI (sumTo (rsz τ ro) (so + i) - sumTo (rsz τ ro) so), nI (so + i), τ)) (rl - so) ?_ 0 (nI (sumTo (rsz τ ro) rl - sumTo (rsz τ ro) so), nI rl, τ) (by decide) ?_ rbF 0 (by omega) (by rw [rbF_val]; omega)
    · rw [s4, g3, s3]
      have hcc : bs + sumTo (rsz τ ro) so + cc ≤ re := by
        rcases s2 with h | ⟨h1, h2⟩
        · have := (hmono so (by omega) s1).2; omega
        · have h3 : sumTo (rsz τ ro) (so + 1) = sumTo (rsz τ ro) so + szN τ (ro so) := rfl
          have := (hmono (so + 1) (by omega) (by omega)).2
          omega
      refine ⟨nI (re - (bs + sumTo (rsz τ ro) so + cc)), by rw [pk_sub hcc], ?_⟩
      have e0 : ((0 : Int32), nI so, τ) = (nI (sumTo (rsz τ ro) (so + 0) - sumTo (rsz τ ro) so), nI (so + 0), τ) := by rw [Nat.add_zero, Nat.sub_self]; rfl
      rw [e0, hcnt, Option.bind_some]
      show some (nI (sumTo (rsz τ ro) rl - sumTo (rsz τ ro) so) - τ.1 8, τ) = _
      rw [s5, pk_sub (by omega)]
      congr 2
      congr 1; omega
    · intro i hi
      obtain ⟨a, b, c⟩ := hob (so + i) (by omega)
      unfold fMod_grey_B7
      show (if τ.1 6 ≤ nI (so + i) then _ else (if ix (nI (so + i)) 120 then ((fMod_size τ (τ.2 11 (nI (so + i)).toNatClampNeg)).bind fun p23 => some (1, (nI (sumTo (rsz τ ro) (so + i) - sumTo (rsz τ ro) so) + p23.1, nI (so + i) + 1, p23.2))) else none)) = _
      rw [if_neg (by rw [g11, nI_le' (by omega) (by omega)]; omega), gd (ix_n (by omega) (by omega)), nI_tc (by omega), c, m_size a hK b, Option.bind_some]
      have h3 : sumTo (rsz τ ro) (so + (i + 1)) = sumTo (rsz τ ro) (so + i) + szN τ (ro (so + i)) := rfl
      have := (hmono (so + i) (by omega) (by omega)).1
      show some (1, (nI (sumTo (rsz τ ro) (so + i) - sumTo (rsz τ ro) so) + nI (szN τ (ro (so + i))), nI (so + i) + 1, τ)) = _
      rw [nI_add, show nI (so + i) + 1 = nI (so + (i + 1)) by rw [show (1 : Int32) = nI 1 from rfl, nI_add]; rfl, h3, show sumTo (rsz τ ro) (so + i) - sumTo (rsz τ ro) so + szN τ (ro (so + i)) = sumTo (rsz τ ro) (so + i) + szN τ (ro (so + i)) - sumTo (rsz τ ro) so by omega]
    · unfold fMod_grey_B7
      show (if τ.1 6 ≤ nI (so + (rl - so)) then _ else _) = _
      rw [if_pos (by rw [g11, nI_le' (by omega) (by omega)]; omega)]
      show some (0, (nI (sumTo (rsz τ ro) (so + (rl - so)) - sumTo (rsz τ ro) so), nI (so + (rl - so)), τ)) = _
      rw [show so + (rl - so) = rl by omega]
theorem number_ok (h : RR n nk nf op pc σ τ) (x : Int32) : Ask n σ τ (fMach_number (2 * n) σ x) (fMod_number τ x) := by
  unfold fMach_number fMod_number
  rcases h.2 with h | ⟨ad, cur, sk, dl, hH, hC⟩
  · rw [if_pos h.1, if_pos h.2.1]; exact ⟨0, rfl, rfl⟩
  · rw [if_neg hC.no4.1, if_neg hC.no4.2, show (4 : Int32) = nI 4 from rfl]
    obtain ⟨-, c5, c6⟩ := hp_curk hH
    have hH0 := hH
    obtain ⟨-, c1, c2, c3, c4, -⟩ := hH
    rcases m_below τ x (N := 4) (by omega) with ⟨b1, b2⟩ | ⟨b1, b2, b3, j, b4, b5⟩
    · refine ⟨0, ?_, by rw [b1, Option.bind_some]; rfl⟩
      by_cases hc : x < 0
      · rw [if_pos hc]
      · rw [if_neg hc, if_neg]
        intro h3
        have := b2.resolve_left hc
        have e := Int32.le_trans this h3
        exact absurd e (by decide)
    · subst b5
      refine ⟨τ.2 10 (4 * cur + j), ?_, ?_⟩
      · rw [if_neg b2, if_pos (show nI j ≤ 3 by rw [show (3 : Int32) = nI 3 from rfl, nI_le' (by omega) (by omega)]; omega), c4, hp_int hH0 c1 (by rcases c2 with h | h <;> rw [h] <;> decide) (by omega), Option.bind_some]
      · obtain ⟨i1, i2, i3⟩ := m_ix c3 c1 (show j < 4 by omega)
        rw [b1, Option.bind_some]
        show (if (1 : Int32) = 0 then _ else (if ix ((4 : Int32) * τ.1 9 + nI j) 960 then some (τ.2 10 ((4 : Int32) * τ.1 9 + nI j).toNatClampNeg, τ) else none)) = _
        rw [if_neg (by decide), gd i1, i2]
/-- looking at a ref, without bringing -/
theorem hp_peek (h : HP n nk nf run σ τ ad cur sk dl) (ho : o < 240) (ha : τ.2 6 o ≠ 0) (hj : j < nrN τ o) :
    (τ.2 9 (4 * o + j) = -1 ∧ fRoom_peekRef (2 * n) σ (nI (ad o)) (nI j) = some (-1, σ)) ∨ ∃ t, t < 240 ∧ τ.2 9 (4 * o + j) = nI t ∧ τ.2 6 t ≠ 0 ∧ fRoom_peekRef (2 * n) σ (nI (ad o)) (nI j) = some (nI (ad t), σ) ∧ (τ.2 7 t = -1 ↔ (τ.2 7 o = -1 ∧ j = 3)) := by
  have h0 := h
  obtain ⟨oT, hK, hf6, hn2, hb, hhd, hI⟩ := hp_obj h ho ha
  obtain ⟨⟨fr, ro, bs, re, ns, rl, so, cc, hR⟩, -⟩ := h
  obtain ⟨-, hG, hO, hD, hF, -⟩ := hR
  obtain ⟨g1, -⟩ := hG
  have hRf := (hO o ho ha).2.2.2.2.2.2.2 j hj
  have hsz : szN τ o = 1 + nrN τ o + niN τ o := rfl
  have e : nI (ad o) + 1 + nI j = nI (ad o + 1 + j) := by rw [show (1 : Int32) = nI 1 from rfl, nI_add, nI_add]
  have hP : fRoom_peekRef (2 * n) σ (nI (ad o)) (nI j) = if σ.2 10 (ad o + 1 + j) = -1 then some (σ.2 10 (ad o + 1 + j), σ) else (if ix (σ.2 10 (ad o + 1 + j)) (2 * n) then (if 0 ≤ σ.2 10 (σ.2 10 (ad o + 1 + j)).toNatClampNeg then some (σ.2 10 (ad o + 1 + j), σ) else fRoom_movedTo (2 * n) σ (σ.2 10 (ad o + 1 + j))) else none) := by
    unfold fRoom_peekRef
    rw [e, gd (ix_n (by omega) (by omega)), nI_tc (by omega), bnd]
  rcases hRf with ⟨r1, r2⟩ | ⟨t, t1, t2, t3, t4, t5⟩
  · exact Or.inl ⟨r1, by rw [hP, if_pos r2, r2]⟩
  · refine Or.inr ⟨t, t1, t2, t3, ?_, t4⟩
    obtain ⟨uT, -, -, -, ub, uhd, -⟩ := hp_obj h0 t1 t3
    have usz : szN τ t = 1 + nrN τ t + niN τ t := rfl
    rcases t5 with t5 | ⟨t5, t6⟩
    · obtain ⟨u1, u2, u3, u4⟩ := uhd
      rw [hP, t5, if_neg (nI_m1 (by omega)), gd (ix_n (by omega) (by omega)), nI_tc (by omega), u4, if_pos (nI_ge0 (by unfold hdN; omega))]
    · obtain ⟨f1, f2, f3, -⟩ := hF t t1 t5
      have hlt : fr t < 2 * n := by rcases g1 with e | e <;> omega
      rw [hP, t6, if_neg (nI_m1 (by omega)), gd (ix_n hlt (by omega)), nI_tc (by omega), f3, if_neg (fw_neg (by omega)), x_movedTo (by omega) hlt (by omega) f3]
theorem kindAt_ok (h : RR n nk nf op pc σ τ) (x y : Int32) : Ask n σ τ (fMach_kindAt (2 * n) σ x y) (fMod_kindAt τ x y) := by
  unfold fMach_kindAt fMod_kindAt
  rcases h.2 with h | ⟨ad, cur, sk, dl, hH, hC⟩
  · rw [if_pos h.1, if_pos h.2.1]; exact ⟨-1, rfl, rfl⟩
  rw [if_neg hC.no4.1, if_neg hC.no4.2]
  obtain ⟨-, c5, c6⟩ := hp_curk hH
  have hH0 := hH
  obtain ⟨-, c1, c2, c3, c4, -⟩ := hH
  have c8 : τ.2 6 cur ≠ 0 := by rcases c2 with h | h <;> rw [h] <;> decide
  unfold fMach_isRegister
  rw [show (3 : Int32) = nI 3 from rfl]
  rcases m_below τ x (N := 3) (by omega) with ⟨b1, b2⟩ | ⟨b1, b2, b3, j, b4, rfl⟩
  · refine ⟨-1, ?_, by rw [b1, Option.bind_some]; rfl⟩
    by_cases hc : x < 0
    · rw [if_pos hc, Option.bind_some]; rfl
    · rw [if_neg hc, if_pos (b2.resolve_left hc), Option.bind_some]; rfl
  obtain ⟨i1, i2, i3⟩ := m_ix c3 c1 (show j < 4 by omega)
  rw [if_neg b2, if_neg b3, b1, Option.bind_some, Option.bind_some]
  show Ask n σ τ (if (1 : Int32) = 0 then _ else (fRoom_peekRef (2 * n) σ (σ.1 11) (nI j)).bind _) (if (1 : Int32) = 0 then _ else (if ix ((4 : Int32) * τ.1 9 + nI j) 960 then (if τ.2 9 ((4 : Int32) * τ.1 9 + nI j).toNatClampNeg = -1 then fMod_kindAt_J42 τ (τ.2 9 ((4 : Int32) * τ.1 9 + nI j).toNatClampNeg) else (if y = -1 then fMod_kindAt_J42 τ (τ.2 9 ((4 : Int32) * τ.1 9 + nI j).toNatClampNeg) else (if ix (τ.2 9 ((4 : Int32) * τ.1 9 + nI j).toNatClampNeg) 240 then (if ix (τ.2 7 (τ.2 9 ((4 : Int32) * τ.1 9 + nI j).toNatClampNeg).toNatClampNeg) 4 then ((fMod_below τ y (τ.2 0 (τ.2 7 (τ.2 9 ((4 : Int32) * τ.1 9 + nI j).toNatClampNeg).toNatClampNeg).toNatClampNeg)).bind fun p70 => if p70.1 = 0 then some (-1, p70.2) else (if ix ((4 : Int32) * (τ.2 9 ((4 : Int32) * τ.1 9 + nI j).toNatClampNeg) + y) 960 then (if p70.2.2 9 ((4 : Int32) * (τ.2 9 ((4 : Int32) * τ.1 9 + nI j).toNatClampNeg) + y).toNatClampNeg = -1 then some (-1, p70.2) else (if ix (p70.2.2 9 ((4 : Int32) * (τ.2 9 ((4 : Int32) * τ.1 9 + nI j).toNatClampNeg) + y).toNatClampNeg) 240 then some (p70.2.2 7 (p70.2.2 9 ((4 : Int32) * (τ.2 9 ((4 : Int32) * τ.1 9 + nI j).toNatClampNeg) + y).toNatClampNeg).toNatClampNeg, p70.2) else none)) else none)) else none) else none))) else none))
  rw [if_neg (by decide), if_neg (by decide), c4, gd i1, i2]
  rcases hp_peek hH0 c1 c8 (show j < nrN τ cur by omega) with ⟨r1, r2⟩ | ⟨t, t1, t2, t3, t4, t5⟩
  · refine ⟨-1, ?_, ?_⟩
    · rw [r2, Option.bind_some]; rfl
    · rw [r1, if_pos rfl]; rfl
  have hk : ¬ τ.2 7 t = -1 := fun e => absurd (t5.mp e).2 (by omega)
  have knd : ∀ u, u < 240 → τ.2 6 u ≠ 0 → ¬ τ.2 7 u = -1 → ∃ k, k < nk ∧ nk ≤ 4 ∧ τ.2 7 u = nI k ∧ idN τ u = k ∧ nrN τ u = krN τ k ∧ τ.2 0 k = nI (krN τ k) ∧ krN τ k ≤ 3 := by
    intro u u1 u2 u3
    obtain ⟨oT, hK, -⟩ := hp_obj hH0 u1 u2
    rcases oT with ⟨h1, -⟩ | ⟨k, h1, h2⟩
    · exact absurd h1 u3
    · have := hK.1
      have e : (nI k).toNatClampNeg = k := nI_tc (by omega)
      refine ⟨k, h1, this, h2, ?_, ?_, (kr_le hK h1).2, (kr_le hK h1).1⟩
      · unfold idN; rw [if_neg u3, h2, e]
      · unfold nrN; rw [if_neg u3, h2, e]
  have hid : ∀ u, u < 240 → τ.2 6 u ≠ 0 → ¬ τ.2 7 u = -1 → fMach_kindAt_J85 (2 * n) σ (nI (ad u)) = some (τ.2 7 u, σ) := by
    intro u u1 u2 u3
    obtain ⟨uT, hK, hf6, hn2, ub, uhd, -⟩ := hp_obj hH0 u1 u2
    have usz : szN τ u = 1 + nrN τ u + niN τ u := rfl
    obtain ⟨k, k1, k2, k3, k4, -⟩ := knd u u1 u2 u3
    unfold fMach_kindAt_J85
    rw [if_neg (nI_m1 (by omega)), x_idOf (by omega) (by omega) uhd, Option.bind_some, k4, k3]
  obtain ⟨k, k1, k2, k3, k4, k5, k6, k7⟩ := knd t t1 t3 hk
  obtain ⟨uT, hK, hf6, hn2, ub, uhd, -⟩ := hp_obj hH0 t1 t3
  have usz : szN τ t = 1 + nrN τ t + niN τ t := rfl
  rw [t4, Option.bind_some, t2]
  show Ask n σ τ (if nI (ad t) = -1 then _ else (if y = -1 then fMach_kindAt_J85 (2 * n) σ (nI (ad t)) else (if y < 0 then fMach_kindAt_J63 (2 * n) σ y (nI (ad t)) else ((fRoom_refsOf (2 * n) σ (nI (ad t))).bind fun p53 => if p53.1 ≤ y then fMach_kindAt_J63 (2 * n) p53.2 y (nI (ad t)) else fMach_kindAt_J64 (2 * n) p53.2 y (nI (ad t)) 1)))) _
  rw [if_neg (show ¬ nI (ad t) = -1 from nI_m1 (by omega)), if_neg (show ¬ nI t = -1 from nI_m1 (by omega))]
  by_cases hy : y = -1
  · refine ⟨τ.2 7 t, by rw [if_pos hy, hid t t1 t3 hk], ?_⟩
    rw [if_pos hy]
    unfold fMod_kindAt_J42
    rw [if_neg (nI_m1 (by omega)), gd (ix_n t1 (by omega)), nI_tc (by omega)]
  have h63 : fMach_kindAt_J63 (2 * n) σ y (nI (ad t)) = some (-1, σ) := rfl
  rw [if_neg hy, if_neg hy, gd (ix_n t1 (by omega)), nI_tc (show t < 100000 by omega), k3, gd (ix_n (by omega) (by omega)), nI_tc (show k < 100000 by omega), k6, x_refsOf (by omega) (by omega) uhd, Option.bind_some]
  show Ask n σ τ (if y < 0 then fMach_kindAt_J63 (2 * n) σ y (nI (ad t)) else (if nI (nrN τ t) ≤ y then fMach_kindAt_J63 (2 * n) σ y (nI (ad t)) else fMach_kindAt_J64 (2 * n) σ y (nI (ad t)) 1)) _
  rw [h63, k5]
  rcases m_below τ y (N := krN τ k) (by omega) with ⟨d1, d2⟩ | ⟨d1, d2, d3, z, d4, rfl⟩
  · refine ⟨-1, ?_, by rw [d1, Option.bind_some]; rfl⟩
    by_cases hc : y < 0
    · rw [if_pos hc]
    · rw [if_neg hc, if_pos (d2.resolve_left hc)]
  obtain ⟨w1, w2, w3⟩ := o_ix t1 (show z < 4 by omega)
  rw [if_neg d2, if_neg d3, d1, Option.bind_some]
  show Ask n σ τ _ (if (1 : Int32) = 0 then _ else (if ix ((4 : Int32) * nI t + nI z) 960 then (if τ.2 9 ((4 : Int32) * nI t + nI z).toNatClampNeg = -1 then some (-1, τ) else (if ix (τ.2 9 ((4 : Int32) * nI t + nI z).toNatClampNeg) 240 then some (τ.2 7 (τ.2 9 ((4 : Int32) * nI t + nI z).toNatClampNeg).toNatClampNeg, τ) else none)) else none))
  rw [if_neg (by decide), gd w1, w2]
  have h64 : fMach_kindAt_J64 (2 * n) σ (nI z) (nI (ad t)) 1 = (fRoom_peekRef (2 * n) σ (nI (ad t)) (nI z)).bind fun p77 => fMach_kindAt_J84 (2 * n) p77.2 p77.1 := by
    unfold fMach_kindAt_J64
    rw [if_neg (by decide)]
  rw [h64]
  rcases hp_peek hH0 t1 t3 (show z < nrN τ t by omega) with ⟨r1, r2⟩ | ⟨u, u1, u2, u3, u4, u5⟩
  · refine ⟨-1, ?_, ?_⟩
    · rw [r2, Option.bind_some]; rfl
    · rw [r1, if_pos rfl]
  · have huk : ¬ τ.2 7 u = -1 := fun e => hk (u5.mp e).1
    refine ⟨τ.2 7 u, ?_, ?_⟩
    · rw [u4, Option.bind_some]
      exact hid u u1 u3 huk
    · rw [u2, if_neg (nI_m1 (by omega)), gd (ix_n u1 (by omega)), nI_tc (by omega)]
end ASK
