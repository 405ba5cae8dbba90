/-! code -/
def q4 (f : Nat → Int32) (w : Nat) (a b c d : Int32) : Nat → Int32 := upd (upd (upd (upd f w a) (w + 1) b) (w + 2) c) (w + 3) d
theorem q4_0 {f : Nat → Int32} {w : Nat} {a b c d : Int32} : q4 f w a b c d w = a := by unfold q4; rw [upd_n (by omega), upd_n (by omega), upd_n (by omega), upd_s]
theorem q4_1 {f : Nat → Int32} {w : Nat} {a b c d : Int32} : q4 f w a b c d (w + 1) = b := by unfold q4; rw [upd_n (by omega), upd_n (by omega), upd_s]
theorem q4_2 {f : Nat → Int32} {w : Nat} {a b c d : Int32} : q4 f w a b c d (w + 2) = c := by unfold q4; rw [upd_n (by omega), upd_s]
theorem q4_3 {f : Nat → Int32} {w : Nat} {a b c d : Int32} : q4 f w a b c d (w + 3) = d := by unfold q4; rw [upd_s]
theorem q4_o {f : Nat → Int32} {w p : Nat} {a b c d : Int32} (h : p < w ∨ w + 3 < p) : q4 f w a b c d p = f p := by unfold q4; rw [upd_n (by omega), upd_n (by omega), upd_n (by omega), upd_n (by omega)]
section CO
variable {n nk nf op pc : Nat} {σ τ : St}
theorem m_code1 {G x1 x2 x3 x4 W L : Int32} (h4 : ¬ τ.1 4 = 0) (hG : τ.1 3 - 1 = G) (iG : ix G 6) (hL : τ.2 4 G.toNatClampNeg = L) (h12 : ¬ L = 12) (hb : fMod_below τ x1 16 = some (1, τ)) (hf : fMod_fits τ x1 x2 x3 x4 = some (1, τ)) (hW : (48 : Int32) * G + (4 : Int32) * L = W) (i0 : ix W 288) (i1 : ix (W + 1) 288) (i2 : ix (W + 2) 288) (i3 : ix (W + 3) 288) :
    fMod_code τ x1 x2 x3 x4 = some (0, (τ.1, va_up (va_up (va_up (va_up (va_up τ.2 5 (upd (τ.2 5) W.toNatClampNeg x1)) 5 (upd (upd (τ.2 5) W.toNatClampNeg x1) (W + 1).toNatClampNeg x2)) 5 (upd (upd (upd (τ.2 5) W.toNatClampNeg x1) (W + 1).toNatClampNeg x2) (W + 2).toNatClampNeg x3)) 5 (upd (upd (upd (upd (τ.2 5) W.toNatClampNeg x1) (W + 1).toNatClampNeg x2) (W + 2).toNatClampNeg x3) (W + 3).toNatClampNeg x4)) 4 (upd (τ.2 4) G.toNatClampNeg (L + 1)))) := by
  subst hG hL hW
  unfold fMod_code
  simp only [if_neg h4, if_pos iG, if_neg h12, hb, hf, Option.bind_some, no10, ↓reduceIte, if_pos i0, if_pos i1, if_pos i2, if_pos i3]
theorem m_code0 {G x1 x2 x3 x4 : Int32} (h4 : ¬ τ.1 4 = 0) (hG : τ.1 3 - 1 = G) (iG : ix G 6) (h12 : ¬ τ.2 4 G.toNatClampNeg = 12) : (fMod_below τ x1 16 = some (0, τ) → fMod_code τ x1 x2 x3 x4 = some (3, τ)) ∧ (fMod_below τ x1 16 = some (1, τ) → fMod_fits τ x1 x2 x3 x4 = some (0, τ) → fMod_code τ x1 x2 x3 x4 = some (4, τ)) := by
  subst hG
  unfold fMod_code
  refine ⟨fun hb => ?_, fun hb hf => ?_⟩
  · simp only [if_neg h4, if_pos iG, if_neg h12, hb, Option.bind_some, ↓reduceIte]
  · simp only [if_neg h4, if_pos iG, if_neg h12, hb, hf, Option.bind_some, no10, ↓reduceIte]
theorem x_add {L : Nat} {G x1 x2 x3 x4 I N : Int32} (hG : σ.1 7 = G) (iG : ix G 6) (hN : σ.2 5 G.toNatClampNeg = N) (hI : G * 12 + N = I) (iI : ix I 72) : fMeths_add L σ x1 x2 x3 x4 = some (σ.1, va_up (va_up (va_up (va_up (va_up σ.2 6 (upd (σ.2 6) I.toNatClampNeg x1)) 7 (upd (σ.2 7) I.toNatClampNeg x2)) 8 (upd (σ.2 8) I.toNatClampNeg x3)) 9 (upd (σ.2 9) I.toNatClampNeg x4)) 5 (upd (σ.2 5) G.toNatClampNeg (N + 1))) := by
  subst hG hN hI
  unfold fMeths_add fMeths_find
  simp only [if_pos iG, Option.bind_some, if_pos iI]
theorem code_ok (h : RR n nk nf op pc σ τ) (x1 x2 x3 x4 : Int32) : Do n (fMach_code (2 * n) σ x1 x2 x3 x4) (fMod_code τ x1 x2 x3 x4) := by
  have h0 := h
  have hRK := h.1.1
  obtain ⟨⟨h1, ⟨r1, r2, r3, r4, r5, r6, r7, r8⟩, h3⟩, hh⟩ := h
  have same : ∀ v : Int32, Do n (some (v, σ)) (some (v, τ)) := fun v => ⟨_, _, rfl, rfl, rfl, nk, nf, op, pc, h0⟩
  by_cases ho : op = 0
  · subst ho
    have : fMach_code (2 * n) σ x1 x2 x3 x4 = some (1, σ) := by unfold fMach_code; rw [if_pos (by rw [r2]; rfl)]
    have h2 : fMod_code τ x1 x2 x3 x4 = some (1, τ) := by unfold fMod_code; rw [if_pos (by rw [r3]; rfl)]
    rw [this, h2]; exact same 1
  have ho1 : op = 1 := by omega
  subst ho1
  have x8 : ¬ σ.1 8 = 0 := by rw [r2]; decide
  have x4' : ¬ τ.1 4 = 0 := by rw [r3]; decide
  have hG : τ.1 3 - 1 = nI nf := by rw [r4, show (1 : Int32) = nI 1 from rfl, pk_sub (by omega)]; rfl
  have iG : ix (nI nf) 6 := ix_n (by omega) (by omega)
  have tG : (nI nf).toNatClampNeg = nf := nI_tc (by omega)
  obtain ⟨a1, a2, a3, a4, a5, a6⟩ := r7 nf (by omega)
  have hXF : fMeths_isOpenOneFull (2 * n) σ = if nI (lenN τ nf) = 12 then some (1, σ) else some (0, σ) := by
    unfold fMeths_isOpenOneFull
    rw [r1, gd iG, tG, a4]
  by_cases h12 : nI (lenN τ nf) = 12
  · have hX : fMach_code (2 * n) σ x1 x2 x3 x4 = some (2, σ) := by
      unfold fMach_code
      rw [if_neg x8, hXF, if_pos h12, Option.bind_some, if_neg (show ¬ ((1 : Int32), σ).1 = 0 from no10)]
    have hM : fMod_code τ x1 x2 x3 x4 = some (2, τ) := by
      unfold fMod_code
      rw [if_neg x4', hG, gd iG, if_pos (by rw [tG, a5]; exact h12)]
    rw [hX, hM]; exact same 2
  have hX0 : fMach_code (2 * n) σ x1 x2 x3 x4 = if x1 < 0 then some (3, σ) else (if x1 < 16 then ((fMach_isAsSaid (2 * n) σ x1 x2 x3 x4).bind fun p42 => if p42.1 = 0 then (some (4, p42.2)) else ((fMeths_add (2 * n) p42.2 x1 x2 x3 x4).bind fun p59 => some (0, p59))) else some (3, σ)) := by
    unfold fMach_code
    rw [if_neg x8, hXF, if_neg h12, Option.bind_some, if_pos (show ((0 : Int32), σ).1 = 0 from rfl)]
  have h12' : ¬ τ.2 4 (nI nf).toNatClampNeg = 12 := by rw [tG, a5]; exact h12
  rcases m_below τ x1 (N := 16) (by omega) with ⟨b1, b2⟩ | ⟨b1, b2, b3, o, b4, rfl⟩
  · have hM := (m_code0 (x2 := x2) (x3 := x3) (x4 := x4) x4' hG iG h12').1 b1
    have hX : fMach_code (2 * n) σ x1 x2 x3 x4 = some (3, σ) := by
      rw [hX0]
      by_cases hc : x1 < 0
      · rw [if_pos hc]
      · rw [if_neg hc, if_neg (Int32.not_lt.mpr (show (16 : Int32) ≤ x1 from b2.resolve_left hc))]
    rw [hX, hM]; exact same 3
  have c16 : nI o < 16 := Int32.not_le.mp b3
  rw [if_neg b2, if_pos c16] at hX0
  rcases said_all (n := n) hRK b4 x2 x3 x4 with ⟨s1, s2⟩ | ⟨s1, s2, s3⟩
  · have hM := (m_code0 (x2 := x2) (x3 := x3) (x4 := x4) x4' hG iG h12').2 b1 s2
    rw [hX0, s1, hM, Option.bind_some, if_pos (show ((0 : Int32), σ).1 = 0 from rfl)]; exact same 4
  have hlen : lenN τ nf < 12 := by
    rw [show (12 : Int32) = nI 12 from rfl, nI_eq' (by omega) (by omega)] at h12; omega
  have hW : (48 : Int32) * nI nf + (4 : Int32) * nI (lenN τ nf) = nI (48 * nf + 4 * lenN τ nf) := by rw [show (48 : Int32) = nI 48 from rfl, show (4 : Int32) = nI 4 from rfl, pk_mul, pk_mul, nI_add]
  have w1 : nI (48 * nf + 4 * lenN τ nf) + 1 = nI (48 * nf + 4 * lenN τ nf + 1) := by rw [show (1 : Int32) = nI 1 from rfl, nI_add]
  have w2 : nI (48 * nf + 4 * lenN τ nf) + 2 = nI (48 * nf + 4 * lenN τ nf + 2) := by rw [show (2 : Int32) = nI 2 from rfl, nI_add]
  have w3 : nI (48 * nf + 4 * lenN τ nf) + 3 = nI (48 * nf + 4 * lenN τ nf + 3) := by rw [show (3 : Int32) = nI 3 from rfl, nI_add]
  have hM := m_code1 (x2 := x2) (x3 := x3) (x4 := x4) x4' hG iG (by rw [tG]; exact a5) h12 b1 s2 hW (ix_n (by omega) (by omega)) (by rw [w1]; exact ix_n (by omega) (by omega)) (by rw [w2]; exact ix_n (by omega) (by omega)) (by rw [w3]; exact ix_n (by omega) (by omega))
  rw [w1, w2, w3, nI_tc (show 48 * nf + 4 * lenN τ nf < 100000 by omega), nI_tc (show 48 * nf + 4 * lenN τ nf + 1 < 100000 by omega), nI_tc (show 48 * nf + 4 * lenN τ nf + 2 < 100000 by omega), nI_tc (show 48 * nf + 4 * lenN τ nf + 3 < 100000 by omega), tG, nI_1] at hM
  have hXA := x_add (L := 2 * n) (N := nI (lenN τ nf)) (x1 := nI o) (x2 := x2) (x3 := x3) (x4 := x4) (I := nI (12 * nf + lenN τ nf)) r1 iG (by rw [tG]; exact a4) (by rw [show (12 : Int32) = nI 12 from rfl, pk_mul, nI_add]; congr 1; omega) (ix_n (by omega) (by omega))
  rw [nI_tc (show 12 * nf + lenN τ nf < 100000 by omega), tG, nI_1] at hXA
  rw [s1, Option.bind_some, if_neg (show ¬ ((1 : Int32), σ).1 = 0 from no10)] at hX0
  rw [show fMeths_add (2 * n) ((1 : Int32), σ).2 (nI o) x2 x3 x4 = _ from hXA, Option.bind_some] at hX0
  refine ⟨_, _, hX0, hM, rfl, nk, nf, 1, pc, ?_⟩
  generalize hl : lenN τ nf = l at *
  refine rr_keep h0 ⟨h1, ⟨r1, r2, r3, r4, r5, r6, ?_, ?_⟩, h3⟩ (fun _ _ _ _ => rfl) rfl (Nat.le_refl _) (Nat.le_refl _) (by omega) (fun _ _ _ _ => rfl) ?_ (fun _ _ => ⟨rfl, rfl⟩) ?_
  · intro m hm
    by_cases hc : m = nf
    · subst hc
      have hl' : (upd (τ.2 4) m (nI (l + 1)) m).toNatClampNeg = l + 1 := by rw [upd_s]; exact nI_tc (by omega)
      show σ.2 4 m = τ.2 3 m ∧ (τ.2 3 m = -1 ∨ ∃ h, h < 12 ∧ τ.2 3 m = nI h) ∧ (upd (τ.2 4) m (nI (l + 1)) m).toNatClampNeg ≤ 12 ∧ upd (σ.2 5) m (nI (l + 1)) m = nI ((upd (τ.2 4) m (nI (l + 1)) m).toNatClampNeg) ∧ upd (τ.2 4) m (nI (l + 1)) m = nI ((upd (τ.2 4) m (nI (l + 1)) m).toNatClampNeg) ∧ ∀ k, k < (upd (τ.2 4) m (nI (l + 1)) m).toNatClampNeg → upd (σ.2 6) (12 * m + l) (nI o) (12 * m + k) = q4 (τ.2 5) (48 * m + 4 * l) (nI o) x2 x3 x4 (48 * m + 4 * k) ∧ upd (σ.2 7) (12 * m + l) x2 (12 * m + k) = q4 (τ.2 5) (48 * m + 4 * l) (nI o) x2 x3 x4 (48 * m + 4 * k + 1) ∧ upd (σ.2 8) (12 * m + l) x3 (12 * m + k) = q4 (τ.2 5) (48 * m + 4 * l) (nI o) x2 x3 x4 (48 * m + 4 * k + 2) ∧ upd (σ.2 9) (12 * m + l) x4 (12 * m + k) = q4 (τ.2 5) (48 * m + 4 * l) (nI o) x2 x3 x4 (48 * m + 4 * k + 3) ∧ WF nk (q4 (τ.2 5) (48 * m + 4 * l) (nI o) x2 x3 x4 (48 * m + 4 * k)) (q4 (τ.2 5) (48 * m + 4 * l) (nI o) x2 x3 x4 (48 * m + 4 * k + 1)) (q4 (τ.2 5) (48 * m + 4 * l) (nI o) x2 x3 x4 (48 * m + 4 * k + 2)) (q4 (τ.2 5) (48 * m + 4 * l) (nI o) x2 x3 x4 (48 * m + 4 * k + 3))
      rw [hl', upd_s, upd_s]
      refine ⟨a1, a2, by omega, rfl, rfl, fun k hk => ?_⟩
      by_cases hkl : k = l
      · subst hkl
        rw [upd_s, upd_s, upd_s, upd_s, q4_0, q4_1, q4_2, q4_3]
        exact ⟨rfl, rfl, rfl, rfl, s3⟩
      · rw [upd_n (by omega), upd_n (by omega), upd_n (by omega), upd_n (by omega), q4_o (by omega), q4_o (by omega), q4_o (by omega), q4_o (by omega)]
        exact a6 k (by omega)
    · obtain ⟨b1, b2, b3, b4, b5, b6⟩ := r7 m hm
      have e4 : upd (τ.2 4) nf (nI (l + 1)) m = τ.2 4 m := upd_n hc
      show σ.2 4 m = τ.2 3 m ∧ (τ.2 3 m = -1 ∨ ∃ h, h < 12 ∧ τ.2 3 m = nI h) ∧ (upd (τ.2 4) nf (nI (l + 1)) m).toNatClampNeg ≤ 12 ∧ upd (σ.2 5) nf (nI (l + 1)) m = nI ((upd (τ.2 4) nf (nI (l + 1)) m).toNatClampNeg) ∧ upd (τ.2 4) nf (nI (l + 1)) m = nI ((upd (τ.2 4) nf (nI (l + 1)) m).toNatClampNeg) ∧ ∀ k, k < (upd (τ.2 4) nf (nI (l + 1)) m).toNatClampNeg → upd (σ.2 6) (12 * nf + l) (nI o) (12 * m + k) = q4 (τ.2 5) (48 * nf + 4 * l) (nI o) x2 x3 x4 (48 * m + 4 * k) ∧ upd (σ.2 7) (12 * nf + l) x2 (12 * m + k) = q4 (τ.2 5) (48 * nf + 4 * l) (nI o) x2 x3 x4 (48 * m + 4 * k + 1) ∧ upd (σ.2 8) (12 * nf + l) x3 (12 * m + k) = q4 (τ.2 5) (48 * nf + 4 * l) (nI o) x2 x3 x4 (48 * m + 4 * k + 2) ∧ upd (σ.2 9) (12 * nf + l) x4 (12 * m + k) = q4 (τ.2 5) (48 * nf + 4 * l) (nI o) x2 x3 x4 (48 * m + 4 * k + 3) ∧ WF nk (q4 (τ.2 5) (48 * nf + 4 * l) (nI o) x2 x3 x4 (48 * m + 4 * k)) (q4 (τ.2 5) (48 * nf + 4 * l) (nI o) x2 x3 x4 (48 * m + 4 * k + 1)) (q4 (τ.2 5) (48 * nf + 4 * l) (nI o) x2 x3 x4 (48 * m + 4 * k + 2)) (q4 (τ.2 5) (48 * nf + 4 * l) (nI o) x2 x3 x4 (48 * m + 4 * k + 3))
      rw [e4, upd_n hc]
      refine ⟨b1, b2, b3, b4, b5, fun k hk => ?_⟩
      have hk12 : k < 12 := by have : k < lenN τ m := hk; omega
      rw [upd_n (by omega), upd_n (by omega), upd_n (by omega), upd_n (by omega), q4_o (by omega), q4_o (by omega), q4_o (by omega), q4_o (by omega)]
      exact b6 k hk
  · intro m hm
    have hc : m ≠ nf := by omega
    have e4 : upd (τ.2 4) nf (nI (l + 1)) m = τ.2 4 m := upd_n hc
    have hf := r8 m hm
    have hl12 : lenN τ m ≤ 12 := (r7 m (by omega)).2.2.1
    show 1 ≤ (upd (τ.2 4) nf (nI (l + 1)) m).toNatClampNeg ∧ (q4 (τ.2 5) (48 * nf + 4 * l) (nI o) x2 x3 x4 (48 * m + 4 * ((upd (τ.2 4) nf (nI (l + 1)) m).toNatClampNeg - 1)) = nI 9 ∨ q4 (τ.2 5) (48 * nf + 4 * l) (nI o) x2 x3 x4 (48 * m + 4 * ((upd (τ.2 4) nf (nI (l + 1)) m).toNatClampNeg - 1)) = nI 13 ∨ q4 (τ.2 5) (48 * nf + 4 * l) (nI o) x2 x3 x4 (48 * m + 4 * ((upd (τ.2 4) nf (nI (l + 1)) m).toNatClampNeg - 1)) = nI 14) ∧ (∀ k, k < (upd (τ.2 4) nf (nI (l + 1)) m).toNatClampNeg → (q4 (τ.2 5) (48 * nf + 4 * l) (nI o) x2 x3 x4 (48 * m + 4 * k) = nI 9 ∨ q4 (τ.2 5) (48 * nf + 4 * l) (nI o) x2 x3 x4 (48 * m + 4 * k) = nI 10 ∨ q4 (τ.2 5) (48 * nf + 4 * l) (nI o) x2 x3 x4 (48 * m + 4 * k) = nI 11) → ∃ z, z < (upd (τ.2 4) nf (nI (l + 1)) m).toNatClampNeg ∧ q4 (τ.2 5) (48 * nf + 4 * l) (nI o) x2 x3 x4 (48 * m + 4 * k + 3) = nI z) ∧ (τ.2 3 m = -1 ∨ ∃ h, h < (upd (τ.2 4) nf (nI (l + 1)) m).toNatClampNeg ∧ τ.2 3 m = nI h)
    rw [e4]
    have hl1 : 1 ≤ lenN τ m := hf.1
    have ee : (τ.2 4 m).toNatClampNeg = lenN τ m := rfl
    rw [ee, q4_o (by omega)]
    refine ⟨hf.1, hf.2.1, fun k hk => ?_, hf.2.2.2⟩
    rw [q4_o (by omega), q4_o (by omega)]
    exact hf.2.2.1 k hk
  · intro k hk
    show va_up (va_up (va_up (va_up (va_up τ.2 5 _) 5 _) 5 _) 5 _) 4 _ k = _
    rw [va_up_n (by omega), va_up_n (by omega), va_up_n (by omega), va_up_n (by omega), va_up_n (by omega)]
  · intro m hm
    show upd (τ.2 4) nf _ m = _
    exact upd_n (by omega)
end CO
