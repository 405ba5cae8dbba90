/-! kind, bind, method, drop -/
def RX (n : Nat) (σ τ : St) : Prop := ∃ nk nf op pc, RR n nk nf op pc σ τ
abbrev Do (n : Nat) (X M : Option (Int32 × St)) : Prop := ∃ p q, X = some p ∧ M = some q ∧ p.1 = q.1 ∧ RX n p.2 q.2
section KD
variable {n nk nf op pc : Nat} {σ τ : St}
theorem x_has (h : RK σ τ nk nf) (x : Int32) : (fKinds_has (2 * n) σ x = some (0, σ) ∧ fMod_below τ x (τ.1 2) = some (0, τ) ∧ (x < 0 ∨ nI nk ≤ x)) ∨ ∃ k, k < nk ∧ x = nI k ∧ fKinds_has (2 * n) σ x = some (1, σ) ∧ fMod_below τ x (τ.1 2) = some (1, τ) := by
  obtain ⟨h1, h2, h3, -⟩ := h
  have := h3.1
  rw [h2]
  unfold fKinds_has
  rw [h1]
  rcases m_below τ x (N := nk) (by omega) with ⟨b1, b2⟩ | ⟨b1, b2, b3, j, b4, b5⟩
  · refine Or.inl ⟨?_, b1, b2⟩
    by_cases hc : x < 0
    · rw [if_pos hc]
    · rw [if_neg hc, if_pos (b2.resolve_left hc)]
  · exact Or.inr ⟨j, b4, b5, by rw [if_neg b2, if_neg b3], b1⟩
theorem bind_ok (h : RR n nk nf op pc σ τ) (x y z : Int32) : Do n (fMach_bind (2 * n) σ x y z) (fMod_bind τ x y z) := by
  unfold fMach_bind fMod_bind
  have hn4 := h.1.1.2.2.1.1
  have same : Do n (some (0, σ)) (some (0, τ)) := ⟨_, _, rfl, rfl, rfl, nk, nf, op, pc, h⟩
  rcases x_has (n := n) h.1.1 x with ⟨a1, a2, -⟩ | ⟨k, k1, rfl, a1, a2⟩
  · rw [a1, a2]; exact same
  rw [a1, a2, Option.bind_some, Option.bind_some]
  show Do n (if (1 : Int32) = 0 then _ else (if y < 0 then some (0, σ) else (if 4 ≤ y then some (0, σ) else (fMeths_isFinished (2 * n) σ z).bind fun p25 => if p25.1 = 0 then (some (0, p25.2)) else ((fKinds_enter (2 * n) p25.2 (nI k) y z).bind fun p40 => some (1, p40))))) (if (1 : Int32) = 0 then _ else (fMod_below τ y 4).bind _)
  rw [if_neg (show ¬ (1 : Int32) = 0 by decide), if_neg (show ¬ (1 : Int32) = 0 by decide), show (4 : Int32) = nI 4 from rfl]
  rcases m_below τ y (N := 4) (by omega) with ⟨b1, b2⟩ | ⟨b1, b2, b3, s, b4, rfl⟩
  · rw [b1]
    by_cases hc : y < 0
    · rw [if_pos hc]; exact same
    · rw [if_neg hc, if_pos (b2.resolve_left hc)]; exact same
  rw [if_neg b2, if_neg b3, b1, Option.bind_some]
  show Do n _ (if (1 : Int32) = 0 then _ else (fMod_finished τ z).bind _)
  rw [if_neg (show ¬ (1 : Int32) = 0 by decide)]
  rcases fin_eq (n := n) h.1.2.1 z with ⟨c1, c2⟩ | ⟨m, hm, rfl, c1, c2⟩
  · rw [c1, c2]; exact same
  rw [c1, c2, Option.bind_some, Option.bind_some]
  have e1 : nI k * nI 4 + nI s = nI (4 * k + s) := by rw [pk_mul, nI_add]; congr 1; omega
  have e2 : nI 4 * nI k + nI s = nI (4 * k + s) := by rw [pk_mul, nI_add]
  refine ⟨(1, (σ.1, va_up σ.2 3 (upd (σ.2 3) (4 * k + s) (nI m)))), (1, (τ.1, va_up τ.2 2 (upd (τ.2 2) (4 * k + s) (nI m)))), ?_, ?_, rfl, nk, nf, op, pc, ?_⟩
  · show (if (1 : Int32) = 0 then _ else (fKinds_enter (2 * n) σ (nI k) (nI s) (nI m)).bind _) = _
    rw [if_neg (by decide)]
    unfold fKinds_enter
    rw [show nI k * 4 + nI s = nI (4 * k + s) from e1, gd (ix_n (by omega) (by omega)), Option.bind_some, nI_tc (by omega)]
  · show (if (1 : Int32) = 0 then _ else (if ix (nI 4 * nI k + nI s) 16 then some ((1 : Int32), (τ.1, va_up τ.2 2 (upd (τ.2 2) (nI 4 * nI k + nI s).toNatClampNeg (nI m)))) else none)) = _
    rw [if_neg (by decide), e2, gd (ix_n (by omega) (by omega)), nI_tc (by omega)]
  · obtain ⟨⟨⟨r1, r2, r3, r4⟩, hr⟩, hh⟩ := h
    refine ⟨⟨⟨r1, r2, r3, fun k' hk' => ⟨(r4 k' hk').1, (r4 k' hk').2.1, fun s' hs' => ?_⟩⟩, hr⟩, hh⟩
    show upd (σ.2 3) (4 * k + s) (nI m) (4 * k' + s') = upd (τ.2 2) (4 * k + s) (nI m) (4 * k' + s') ∧ (upd (τ.2 2) (4 * k + s) (nI m) (4 * k' + s') = -1 ∨ ∃ m', m' < nf ∧ upd (τ.2 2) (4 * k + s) (nI m) (4 * k' + s') = nI m')
    by_cases hc : 4 * k' + s' = 4 * k + s
    · rw [hc, upd_s, upd_s]; exact ⟨rfl, Or.inr ⟨m, hm, rfl⟩⟩
    · rw [upd_n hc, upd_n hc]
      exact (r4 k' hk').2.2 s' hs'
theorem drop_ok (h : RR n nk nf op pc σ τ) : Do n (fMach_drop (2 * n) σ) (fMod_drop τ) := by
  obtain ⟨⟨h1, ⟨r1, r2, r3, r4, r5, r6, r7, r8⟩, h3⟩, hh⟩ := h
  unfold fMach_drop fMeths_giveUp fMod_drop
  rw [r2, r3]
  by_cases ho : op = 0
  · subst ho
    refine ⟨(0, (upd σ.1 8 0, σ.2)), (0, τ), rfl, rfl, rfl, nk, nf, 0, pc, ⟨⟨h1, ⟨r1, rfl, r3, r4, r5, r6, r7, r8⟩, h3⟩, hh⟩⟩
  · have : op = 1 := by omega
    subst this
    refine ⟨(1, (upd σ.1 8 0, σ.2)), (1, (upd (upd τ.1 4 0) 3 (τ.1 3 - 1), τ.2)), rfl, rfl, rfl, nk, nf, 0, pc, ⟨⟨h1, ⟨r1, rfl, rfl, ?_, by omega, by omega, fun m hm => r7 m (by omega), r8⟩, h3⟩, hh⟩⟩
    show τ.1 3 - 1 = _
    rw [r4, show (1 : Int32) = nI 1 from rfl, pk_sub (by omega)]; rfl
theorem hand_cases {x : Int32} (h1 : ¬ x < -1) (h2 : x < 12) : x = -1 ∨ ∃ h, h < 12 ∧ x = nI h := by
  by_cases h0 : x < 0
  · left
    rw [Int32.lt_iff_toInt_lt] at h0 h1
    have e1 : (-1 : Int32).toInt = -1 := by decide
    have e0 : (0 : Int32).toInt = 0 := by decide
    apply Int32.toInt_inj.mp
    omega
  · right
    rcases pk_ix x (n := 12) (by omega) with h | h | h
    · exact absurd h h0
    · exact absurd h2 (Int32.not_lt.mpr h)
    · exact h
theorem lt12 (x : Int32) : (x < 12) ↔ (x ≤ 11) := by
  rw [Int32.lt_iff_toInt_lt, Int32.le_iff_toInt_le]
  have e1 : (12 : Int32).toInt = 12 := by decide
  have e0 : (11 : Int32).toInt = 11 := by decide
  omega
theorem method_ok (h : RR n nk nf op pc σ τ) (x : Int32) : Do n (fMach_method (2 * n) σ x) (fMod_method τ x) := by
  have h0 := h
  obtain ⟨⟨h1, ⟨r1, r2, r3, r4, r5, r6, r7, r8⟩, h3⟩, hh⟩ := h
  unfold fMach_method fMeths_open fMod_method
  rw [bnd, r2, r3, r1, r4]
  have same : Do n (some (-1, σ)) (some (-1, τ)) := ⟨_, _, rfl, rfl, rfl, nk, nf, op, pc, h0⟩
  by_cases ho : op = 0
  · subst ho
    rw [if_pos (show nI 0 = 0 from rfl), if_pos (show nI 0 = 0 from rfl), Nat.add_zero]
    by_cases h6 : nI nf = 6
    · rw [if_pos h6, if_pos h6]; exact same
    have hnf : nf < 6 := by
      rw [show (6 : Int32) = nI 6 from rfl, nI_eq' (by omega) (by omega)] at h6; omega
    rw [if_neg h6, if_neg h6]
    by_cases hx : x < -1
    · rw [if_pos hx, if_pos hx]; exact same
    rw [if_neg hx, if_neg hx]
    by_cases hx2 : x < 12
    · rw [if_pos hx2, if_pos ((lt12 x).mp hx2), gd (ix_n hnf (by omega)), gd (ix_n hnf (by omega)), gd (ix_n hnf (by omega)), gd (ix_n hnf (by omega)), nI_tc (by omega)]
      have e1 : nI nf + 1 = nI (nf + 1) := by rw [show (1 : Int32) = nI 1 from rfl, nI_add]
      have e2 : nI (nf + 1) - 1 = nI nf := by rw [show (1 : Int32) = nI 1 from rfl, pk_sub (by omega)]; rfl
      rw [e1, e2]
      refine ⟨_, _, rfl, rfl, rfl, nk, nf, 1, pc, rr_keep h0 ⟨h1, ⟨r1, rfl, rfl, rfl, by omega, by omega, ?_, ?_⟩, h3⟩ ?_ rfl (Nat.le_refl _) (Nat.le_refl _) (by omega) ?_ ?_ (fun _ _ => ⟨rfl, rfl⟩) ?_⟩
      · intro m hm
        by_cases hc : m = nf
        · subst hc
          have hl : lenN (upd (upd τ.1 4 1) 3 (nI (m + 1)), va_up (va_up τ.2 3 (upd (τ.2 3) m x)) 4 (upd (τ.2 4) m 0)) m = 0 := by
            unfold lenN
            show (upd (τ.2 4) m 0 m).toNatClampNeg = 0
            rw [upd_s]; decide
          refine ⟨?_, ?_, Nat.le_trans (Nat.le_of_eq hl) (by omega), ?_, ?_, fun k hk => absurd (Nat.lt_of_lt_of_eq hk hl) (by omega)⟩
          · show upd (σ.2 4) m x m = upd (τ.2 3) m x m
            rw [upd_s, upd_s]
          · show upd (τ.2 3) m x m = -1 ∨ ∃ h, h < 12 ∧ upd (τ.2 3) m x m = nI h
            rw [upd_s]; exact hand_cases hx hx2
          · rw [hl]; exact upd_s
          · rw [hl]; exact upd_s
        · obtain ⟨a1, a2, a3, a4, a5, a6⟩ := r7 m (by omega)
          have hl : lenN (upd (upd τ.1 4 1) 3 (nI (nf + 1)), va_up (va_up τ.2 3 (upd (τ.2 3) nf x)) 4 (upd (τ.2 4) nf 0)) m = lenN τ m := by
            unfold lenN
            show (upd (τ.2 4) nf 0 m).toNatClampNeg = _
            rw [upd_n hc]
          unfold RM1
          rw [hl]
          refine ⟨?_, ?_, a3, ?_, ?_, a6⟩
          · show upd (σ.2 4) nf x m = upd (τ.2 3) nf x m
            rw [upd_n hc, upd_n hc]; exact a1
          · show upd (τ.2 3) nf x m = -1 ∨ ∃ h, h < 12 ∧ upd (τ.2 3) nf x m = nI h
            rw [upd_n hc]; exact a2
          · show upd (σ.2 5) nf 0 m = _
            rw [upd_n hc]; exact a4
          · show upd (τ.2 4) nf 0 m = _
            rw [upd_n hc]; exact a5
      · intro m hm
        have hc : m ≠ nf := by omega
        have hl : lenN (upd (upd τ.1 4 1) 3 (nI (nf + 1)), va_up (va_up τ.2 3 (upd (τ.2 3) nf x)) 4 (upd (τ.2 4) nf 0)) m = lenN τ m := by
          unfold lenN
          show (upd (τ.2 4) nf 0 m).toNatClampNeg = _
          rw [upd_n hc]
        have := r8 m hm
        unfold Fin1 at this ⊢
        rw [hl]
        refine ⟨this.1, this.2.1, this.2.2.1, ?_⟩
        show upd (τ.2 3) nf x m = -1 ∨ ∃ h, h < lenN τ m ∧ upd (τ.2 3) nf x m = nI h
        rw [upd_n hc]; exact this.2.2.2
      · intro j h6 h7 h8; exact upd_n h8
      · intro j h2 h3 h4
        show upd (upd τ.1 4 1) 3 (nI (nf + 1)) j = _
        rw [upd_n h3, upd_n h4]
      · intro k hk
        show va_up (va_up τ.2 3 _) 4 _ k = _
        rw [va_up_n (by omega), va_up_n (by omega)]
      · intro m hm
        show upd (τ.2 4) nf 0 m = _
        rw [upd_n (by omega)]
    · rw [if_neg hx2, if_neg (fun h => hx2 ((lt12 x).mpr h))]; exact same
  · have : op = 1 := by omega
    subst this
    rw [if_neg (show ¬ nI 1 = 0 by decide), if_neg (show ¬ nI 1 = 0 by decide)]; exact same
end KD
