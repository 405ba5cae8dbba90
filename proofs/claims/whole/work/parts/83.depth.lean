/-! depth -/
section DP
variable {n nk nf op pc : Nat} {run : Prop} {σ τ : St} {ad : Nat → Nat} {cur dl o j : Nat} {sk : Nat → Nat}
theorem hp_inj (h : HP n nk nf run σ τ ad cur sk dl) {a b : Nat} (ha : a < 240) (hb : b < 240) (la : τ.2 6 a ≠ 0) (lb : τ.2 6 b ≠ 0) (e : ad a = ad b) : a = b := by
  refine Classical.byContradiction fun hne => ?_
  have za : szN τ a = 1 + nrN τ a + niN τ a := rfl
  have zb : szN τ b = 1 + nrN τ b + niN τ b := rfl
  obtain ⟨⟨fr, ro, bs, re, ns, rl, so, cc, hR⟩, -⟩ := h
  have := hR.2.2.2.1 a b ha hb la lb hne
  omega
/-- distinct live objects are few -/
theorem few (h : HP n nk nf run σ τ ad cur sk dl) {m : Nat} {f : Nat → Nat} (hf : ∀ i, i < m → f i < 240 ∧ τ.2 6 (f i) ≠ 0) (hi : ∀ i j, i < m → j < m → f i = f j → i = j) : m ≤ 2 * n ∧ m ≤ 240 := by
  refine ⟨?_, ?_⟩
  · refine Classical.byContradiction fun hc => ?_
    obtain ⟨i, j, hij, hj, e⟩ := pigeon (2 * n) (fun i => ad (f i)) (fun i hi => by
      obtain ⟨a, b⟩ := hf i (by omega)
      have := hp_obj h a b
      have z : szN τ (f i) = 1 + nrN τ (f i) + niN τ (f i) := rfl
      show ad (f i) < 2 * n
      omega)
    obtain ⟨a, b⟩ := hf i (by omega)
    obtain ⟨c, d⟩ := hf j (by omega)
    have := hi i j (by omega) (by omega) (hp_inj h a c b d e)
    omega
  · refine Classical.byContradiction fun hc => ?_
    obtain ⟨i, j, hij, hj, e⟩ := pigeon 240 f (fun i hi => (hf i (by omega)).1)
    have := hi i j (by omega) (by omega) e
    omega
theorem depth_ok (h : RR n nk nf op pc σ τ) : Ask n σ τ (fMach_depth (2 * n) σ) (fMod_depth τ) := by
  unfold fMach_depth fMod_depth
  rcases h.2 with h | ⟨ad, cur, sk, dl, hH, hC⟩
  · rw [if_pos h.1, if_pos h.2.1]; exact ⟨0, rfl, rfl⟩
  rw [if_neg hC.no4.1, if_neg hC.no4.2, bnd]
  have hH0 := hH
  obtain ⟨-, c1, c2, c3, c4, gC, gs, -⟩ := hH
  obtain ⟨d1, d2, d3, d4, d5⟩ := gC
  obtain ⟨b1, b2⟩ := few hH0 (f := sk) (m := dl) (fun i hi => ⟨(d2 i hi).1, (d2 i hi).2.1⟩) d5
  have hn : n ≤ 120 := (hp_obj hH0 c1 (by rcases c2 with h | h <;> rw [h] <;> decide)).2.2.2.1
  refine ⟨nI dl, ?_, ?_⟩
  · unfold fRoom_countFrames
    have hcnt := rbLoop_count (f := fRoom_countFrames_B7 (2 * n)) (fun i => (nI i, (if i < dl then nI (ad (sk i)) else -1), σ)) dl ?_ 0 (nI dl, -1, σ) (by decide) ?_ rbF 0 (by omega) (by rw [rbF_val]; omega)
    · have e0 : ((0 : Int32), σ.1 11, σ) = (nI 0, (if 0 < dl then nI (ad (sk 0)) else -1), σ) := by rw [if_pos (show 0 < dl from d1), gs, c4]; rfl
      rw [e0, hcnt, Option.bind_some]
    · intro i hi
      have hL := d2 i hi
      obtain ⟨oT, hK, hf6, hn2, hb, hhd, -⟩ := hp_obj hH0 hL.1 hL.2.1
      have z : szN τ (sk i) = 1 + nrN τ (sk i) + niN τ (sk i) := rfl
      have hfr := frame_nr hL.2.2
      show fRoom_countFrames_B7 (2 * n) (nI i, (if i < dl then nI (ad (sk i)) else -1), σ) = some (1, (nI (i + 1), (if i + 1 < dl then nI (ad (sk (i + 1))) else -1), σ))
      rw [if_pos hi]
      unfold fRoom_countFrames_B7
      show (if nI (ad (sk i)) = -1 then _ else (if nI (2 * n) ≤ nI i then _ else ((fRoom_peekRef (2 * n) σ (nI (ad (sk i))) 3).bind fun p27 => some (1, ((nI i + 1), p27.1, p27.2))))) = _
      rw [if_neg (nI_m1 (by omega)), if_neg (by rw [nI_le' (by omega) (by omega)]; omega), show (3 : Int32) = nI 3 from rfl, nI_1]
      rcases hp_peek hH0 hL.1 hL.2.1 (show 3 < nrN τ (sk i) by omega) with ⟨r1, r2⟩ | ⟨t, t1, t2, t3, t4, t5⟩
      · have : ¬ i + 1 < dl := fun hlt => by
          have := d3 i hlt
          rw [r1] at this
          exact absurd this.symm (nI_m1 (by have := (d2 (i + 1) hlt).1; omega))
        rw [r2, Option.bind_some, if_neg this]
      · have hlt : i + 1 < dl := by
          refine Classical.byContradiction fun hc => ?_
          have : i = dl - 1 := by omega
          subst this
          rw [d4] at t2
          exact absurd t2.symm (nI_m1 (by omega))
        have : t = sk (i + 1) := nI_inj (by omega) (by have := (d2 (i + 1) hlt).1; omega) (t2.symm.trans (d3 i hlt))
        subst this
        rw [t4, Option.bind_some, if_pos hlt]
    · show fRoom_countFrames_B7 (2 * n) (nI dl, (if dl < dl then nI (ad (sk dl)) else -1), σ) = _
      rw [if_neg (by omega)]
      unfold fRoom_countFrames_B7
      show (if (-1 : Int32) = -1 then _ else _) = _
      rw [if_pos rfl]
  · have hcnt := rbLoop_count (f := fMod_depth_B19) (fun i => (nI (1 + i), nI (sk i), nI i, τ)) (dl - 1) ?_ 0 (nI (1 + (dl - 1)), nI (sk (dl - 1)), nI (dl - 1), τ) (by decide) ?_ rbF 0 (by omega) (by rw [rbF_val]; omega)
    · have e0 : ((1 : Int32), τ.1 9, (0 : Int32), τ) = (nI (1 + 0), nI (sk 0), nI 0, τ) := by rw [gs, c3]; rfl
      rw [e0, hcnt, Option.bind_some]
      show some (nI (1 + (dl - 1)), τ) = _
      rw [show 1 + (dl - 1) = dl by omega]
    · intro i hi
      obtain ⟨w1, w2, w3⟩ := o_ix (d2 i (by omega)).1 (show 3 < 4 by omega)
      have hl := d3 i (by omega)
      show fMod_depth_B19 (nI (1 + i), nI (sk i), nI i, τ) = some (1, (nI (1 + (i + 1)), nI (sk (i + 1)), nI (i + 1), τ))
      unfold fMod_depth_B19
      show (if (240 : Int32) ≤ nI i then _ else (if ix ((4 : Int32) * nI (sk i) + nI 3) 960 then (if τ.2 9 ((4 : Int32) * nI (sk i) + nI 3).toNatClampNeg = -1 then _ else (if ix ((4 : Int32) * nI (sk i) + nI 3) 960 then some (1, (nI (1 + i) + 1, τ.2 9 ((4 : Int32) * nI (sk i) + nI 3).toNatClampNeg, nI i + 1, τ)) else none)) else none)) = _
      rw [if_neg (by rw [show (240 : Int32) = nI 240 from rfl, nI_le' (by omega) (by omega)]; omega), gd w1, if_neg (by rw [w2, hl]; exact nI_m1 (by have := (d2 (i + 1) (by omega)).1; omega)), gd w1, w2, hl, nI_1, nI_1]
      rfl
    · obtain ⟨w1, w2, w3⟩ := o_ix (d2 (dl - 1) (by omega)).1 (show 3 < 4 by omega)
      show fMod_depth_B19 (nI (1 + (dl - 1)), nI (sk (dl - 1)), nI (dl - 1), τ) = _
      unfold fMod_depth_B19
      show (if (240 : Int32) ≤ nI (dl - 1) then _ else (if ix ((4 : Int32) * nI (sk (dl - 1)) + nI 3) 960 then (if τ.2 9 ((4 : Int32) * nI (sk (dl - 1)) + nI 3).toNatClampNeg = -1 then _ else _) else none)) = _
      rw [if_neg (by rw [show (240 : Int32) = nI 240 from rfl, nI_le' (by omega) (by omega)]; omega), gd w1, if_pos (by rw [w2]; exact d4)]
end DP
