/-! kind -/
def wr (f : Nat → Int32) (b : Nat) (v : Nat → Int32) (i : Nat) : Nat → Int32 := fun p => if b ≤ p ∧ p < b + i then v (p - b) else f p
theorem wr_0 {f v : Nat → Int32} {b : Nat} : wr f b v 0 = f := by funext p; unfold wr; rw [if_neg (by omega)]
theorem wr_s {f v : Nat → Int32} {b i : Nat} : upd (wr f b v i) (b + i) (v i) = wr f b v (i + 1) := by
  funext p
  by_cases h : p = b + i
  · subst h; rw [upd_s]; unfold wr; rw [if_pos (by omega)]; congr 1; omega
  · rw [upd_n h]; unfold wr
    by_cases h2 : b ≤ p ∧ p < b + i
    · rw [if_pos h2, if_pos (by omega)]
    · rw [if_neg h2, if_neg (by omega)]
theorem wr_lo {f v : Nat → Int32} {b i p : Nat} (h : p < b) : wr f b v i p = f p := by unfold wr; rw [if_neg (by omega)]
theorem wr_in {f v : Nat → Int32} {b i p : Nat} (h : p < i) : wr f b v i (b + p) = v p := by unfold wr; rw [if_pos (by omega)]; congr 1; omega
section KD2
variable {n nk nf op pc : Nat} {σ τ : St}
theorem x_loadLoop {L : Nat} {x1 x2 x3 : Int32} {inh : Nat → Int32} (hn : nk < 4) (hE : ∀ i, i < 4 → ∀ f, (∀ p, p < 4 * nk → f p = σ.2 3 p) → fKinds_entry L (σ.1, va_up σ.2 3 f) x1 (nI i) = some (inh i, (σ.1, va_up σ.2 3 f))) :
    rbLoop (fKinds_load_B90 L x1 x2 x3 (nI nk)) rbF (0, σ) = some (0, (nI 4, (σ.1, va_up σ.2 3 (wr (σ.2 3) (4 * nk) inh 4)))) := by
  have hcnt := rbLoop_count (f := fKinds_load_B90 L x1 x2 x3 (nI nk)) (fun i => (nI i, (σ.1, va_up σ.2 3 (wr (σ.2 3) (4 * nk) inh i)))) 4 ?_ 0 (nI 4, (σ.1, va_up σ.2 3 (wr (σ.2 3) (4 * nk) inh 4))) (by decide) ?_ rbF 0 (by omega) (by rw [rbF_val]; omega)
  · rw [wr_0, va_id] at hcnt
    exact hcnt
  · intro i hi
    unfold fKinds_load_B90
    show (if (4 : Int32) ≤ nI i then _ else ((fKinds_entry L (σ.1, va_up σ.2 3 (wr (σ.2 3) (4 * nk) inh i)) x1 (nI i)).bind fun p105 => (fKinds_enter L p105.2 (nI nk) (nI i) p105.1).bind fun p108 => some (1, ((nI i + 1), p108)))) = _
    rw [if_neg (by rw [show (4 : Int32) = nI 4 from rfl, nI_le' (by omega) (by omega)]; omega), hE i hi _ (fun p hp => wr_lo hp), Option.bind_some]
    unfold fKinds_enter
    have e : nI nk * 4 + nI i = nI (4 * nk + i) := by rw [show (4 : Int32) = nI 4 from rfl, pk_mul, nI_add]; congr 1; omega
    rw [e, gd (ix_n (by omega) (by omega)), Option.bind_some, nI_tc (by omega)]
    show some (1, (nI i + 1, (σ.1, va_up (va_up σ.2 3 (wr (σ.2 3) (4 * nk) inh i)) 3 (upd (wr (σ.2 3) (4 * nk) inh i) (4 * nk + i) (inh i))))) = _
    rw [va_va, wr_s, nI_1]
  · unfold fKinds_load_B90
    show (if (4 : Int32) ≤ nI 4 then _ else _) = _
    rw [if_pos (by decide)]
theorem m_kindLoop {x1 : Int32} {inh : Nat → Int32} (hn : nk < 4) (h2 : τ.1 2 = nI nk) (hx : (x1 = -1 ∧ ∀ i, inh i = -1) ∨ ∃ k, k < nk ∧ x1 = nI k ∧ ∀ i, inh i = τ.2 2 (4 * k + i)) :
    rbLoop (fMod_kind_B88 x1) rbF (0, τ) = some (0, (nI 4, (τ.1, va_up τ.2 2 (wr (τ.2 2) (4 * nk) inh 4)))) := by
  have hcnt := rbLoop_count (f := fMod_kind_B88 x1) (fun i => (nI i, (τ.1, va_up τ.2 2 (wr (τ.2 2) (4 * nk) inh i)))) 4 ?_ 0 (nI 4, (τ.1, va_up τ.2 2 (wr (τ.2 2) (4 * nk) inh 4))) (by decide) ?_ rbF 0 (by omega) (by rw [rbF_val]; omega)
  · rw [wr_0, va_id] at hcnt
    exact hcnt
  · intro i hi
    have e : (4 : Int32) * nI nk + nI i = nI (4 * nk + i) := by rw [show (4 : Int32) = nI 4 from rfl, pk_mul, nI_add]
    have hJ : ∀ (s : St) (v : Int32), fMod_kind_B88_J126 s x1 (nI i) v (nI (4 * nk + i)) = some (1, (nI (i + 1), (s.1, va_up s.2 2 (upd (s.2 2) (4 * nk + i) v)))) := by
      intro s v
      unfold fMod_kind_B88_J126
      rw [gd (ix_n (by omega) (by omega)), nI_tc (by omega), nI_1]
    unfold fMod_kind_B88
    show (if (4 : Int32) ≤ nI i then _ else (if 0 ≤ x1 then (if ix ((4 : Int32) * x1 + nI i) 16 then fMod_kind_B88_J126 (τ.1, va_up τ.2 2 (wr (τ.2 2) (4 * nk) inh i)) x1 (nI i) (wr (τ.2 2) (4 * nk) inh i ((4 : Int32) * x1 + nI i).toNatClampNeg) ((4 : Int32) * τ.1 2 + nI i) else none) else fMod_kind_B88_J126 (τ.1, va_up τ.2 2 (wr (τ.2 2) (4 * nk) inh i)) x1 (nI i) (-1) ((4 : Int32) * τ.1 2 + nI i))) = _
    rw [if_neg (by rw [show (4 : Int32) = nI 4 from rfl, nI_le' (by omega) (by omega)]; omega), h2, e, hJ, hJ]
    have hend : some (1, (nI (i + 1), ((τ.1, va_up τ.2 2 (wr (τ.2 2) (4 * nk) inh i)) : St).1, va_up ((τ.1, va_up τ.2 2 (wr (τ.2 2) (4 * nk) inh i)) : St).2 2 (upd (((τ.1, va_up τ.2 2 (wr (τ.2 2) (4 * nk) inh i)) : St).2 2) (4 * nk + i) (inh i)))) = some (1, (nI (i + 1), (τ.1, va_up τ.2 2 (wr (τ.2 2) (4 * nk) inh (i + 1))))) := by
      show some (1, (nI (i + 1), τ.1, va_up (va_up τ.2 2 (wr (τ.2 2) (4 * nk) inh i)) 2 (upd (wr (τ.2 2) (4 * nk) inh i) (4 * nk + i) (inh i)))) = _
      rw [va_va, wr_s]
    rcases hx with ⟨hx, hi'⟩ | ⟨k, k1, hx, hi'⟩
    · rw [if_neg (by rw [hx]; decide), ← hi' i]; exact hend
    · have e3 : (4 : Int32) * nI k + nI i = nI (4 * k + i) := by rw [show (4 : Int32) = nI 4 from rfl, pk_mul, nI_add]
      rw [hx, if_pos (nI_ge0 (by omega)), e3, gd (ix_n (by omega) (by omega)), nI_tc (by omega), wr_lo (by omega), ← hi' i]; exact hend
  · unfold fMod_kind_B88
    show (if (4 : Int32) ≤ nI 4 then _ else _) = _
    rw [if_pos (by decide)]
theorem three (x : Int32) : (x ≤ 3) ↔ ¬ (3 < x) := Int32.not_lt.symm
theorem three4 (x : Int32) : (3 < x) ↔ (nI 4 ≤ x) := by
  rw [Int32.lt_iff_toInt_lt, Int32.le_iff_toInt_le]
  have e1 : (3 : Int32).toInt = 3 := by decide
  have e0 : (nI 4).toInt = 4 := by decide
  omega
theorem kind_in {x1 : Int32} {inh : Nat → Int32} {a b R I : Nat} (h : RR n nk nf op pc σ τ) (hn : nk < 4) (ha : a < 4) (hb : b < 4) (hx : (x1 = -1 ∧ (∀ i, inh i = -1)) ∨ ∃ k, k < nk ∧ x1 = nI k ∧ (∀ i, inh i = τ.2 2 (4 * k + i))) (hR : R ≤ a) (hI : I ≤ b) :
    Do n (fKinds_load_J55 (2 * n) σ x1 (nI a) (nI b) (nI R) (nI I)) (fMod_kind_J65 τ x1 (nI a) (nI b)) := by
  obtain ⟨r1, r2, r3, r4⟩ := h.1.1
  have hinh : ∀ i, i < 4 → inh i = -1 ∨ ∃ m, m < nf ∧ inh i = nI m := by
    intro i hi
    rcases hx with ⟨-, h⟩ | ⟨k, k1, -, h⟩
    · exact Or.inl (h i)
    · rw [h i]; exact ((r4 k k1).2.2 i hi).2
  have hE : ∀ i, i < 4 → ∀ f, (∀ p, p < 4 * nk → f p = σ.2 3 p) → fKinds_entry (2 * n) (σ.1, va_up σ.2 3 f) x1 (nI i) = some (inh i, (σ.1, va_up σ.2 3 f)) := by
    intro i hi f hf
    unfold fKinds_entry fKinds_has
    rcases hx with ⟨hx, h⟩ | ⟨k, k1, hx, h⟩
    · rw [if_pos (by rw [hx]; decide), Option.bind_some, h i]; rfl
    · have e : nI k * 4 + nI i = nI (4 * k + i) := by rw [show (4 : Int32) = nI 4 from rfl, pk_mul, nI_add]; congr 1; omega
      rw [hx, if_neg (nI_nlt0 (by omega)), if_neg (show ¬ σ.1 6 ≤ nI k by rw [r1, nI_le' (by omega) (by omega)]; omega), Option.bind_some]
      show (if (1 : Int32) = 0 then _ else (if ix (nI k * 4 + nI i) 16 then some (f (nI k * 4 + nI i).toNatClampNeg, (σ.1, va_up σ.2 3 f)) else none)) = _
      rw [if_neg (by decide), e, gd (ix_n (by omega) (by omega)), nI_tc (by omega), hf _ (by omega), ((r4 k k1).2.2 i hi).1, h i]
  have e1 : nI nk + 1 = nI (nk + 1) := nI_1 nk
  have e2 : nI (nk + 1) - 1 = nI nk := by rw [show (1 : Int32) = nI 1 from rfl, pk_sub (by omega)]; rfl
  refine ⟨(nI nk, (upd σ.1 6 (nI (nk + 1)), va_up (va_up (va_up σ.2 3 (wr (σ.2 3) (4 * nk) inh 4)) 1 (upd (σ.2 1) nk (nI a))) 2 (upd (σ.2 2) nk (nI b)))), (nI nk, (upd τ.1 2 (nI (nk + 1)), va_up (va_up (va_up τ.2 0 (upd (τ.2 0) nk (nI a))) 1 (upd (τ.2 1) nk (nI b))) 2 (wr (τ.2 2) (4 * nk) inh 4))), ?_, ?_, rfl, nk + 1, nf, op, pc, ?_⟩
  · unfold fKinds_load_J55
    rw [if_neg (show ¬ nI a < nI R by rw [nI_lt' (by omega) (by omega)]; omega), if_neg (show ¬ (3 : Int32) < nI a by rw [show (3 : Int32) = nI 3 from rfl, nI_lt' (by omega) (by omega)]; omega), if_neg (show ¬ nI b < nI I by rw [nI_lt' (by omega) (by omega)]; omega), if_pos (show nI b ≤ 3 by rw [show (3 : Int32) = nI 3 from rfl, nI_le' (by omega) (by omega)]; omega), r1, x_loadLoop (nk := nk) hn hE, Option.bind_some, gd (ix_n hn (by omega)), gd (ix_n hn (by omega)), nI_tc (by omega)]
    show some (nI nk, (upd σ.1 6 (σ.1 6 + 1), _)) = _
    rw [r1, e1]; rfl
  · unfold fMod_kind_J65
    rw [r2, gd (ix_n hn (by omega)), gd (ix_n hn (by omega)), nI_tc (by omega)]
    rw [m_kindLoop (nk := nk) (τ := (τ.1, va_up (va_up τ.2 0 (upd (τ.2 0) nk (nI a))) 1 (upd (τ.2 1) nk (nI b)))) (inh := inh) hn r2 hx, Option.bind_some]
    show some ((τ.1 2 + 1) - 1, (upd τ.1 2 (τ.1 2 + 1), _)) = _
    rw [r2, e1, e2]; rfl
  · have hKd : KdT (upd τ.1 2 (nI (nk + 1)), va_up (va_up (va_up τ.2 0 (upd (τ.2 0) nk (nI a))) 1 (upd (τ.2 1) nk (nI b))) 2 (wr (τ.2 2) (4 * nk) inh 4)) (nk + 1) := by
      refine ⟨by omega, fun k hk => ?_⟩
      show (∃ r, r ≤ 3 ∧ upd (τ.2 0) nk (nI a) k = nI r) ∧ ∃ i, i ≤ 3 ∧ upd (τ.2 1) nk (nI b) k = nI i
      by_cases hc : k = nk
      · subst hc; rw [upd_s, upd_s]; exact ⟨⟨a, by omega, rfl⟩, ⟨b, by omega, rfl⟩⟩
      · rw [upd_n hc, upd_n hc]; exact r3.2 k (by omega)
    have h0 := h
    obtain ⟨⟨-, ⟨q1, q2, q3, q4, q5, q6, q7, q8⟩, h3⟩, hh⟩ := h
    refine rr_keep h0 ⟨⟨rfl, rfl, hKd, fun k hk => ?_⟩, ⟨q1, q2, q3, q4, q5, q6, fun m hm => ?_, q8⟩, h3⟩ ?_ rfl (by omega) (Nat.le_refl _) (by omega) ?_ ?_ ?_ (fun _ _ => rfl)
    · show upd (σ.2 1) nk (nI a) k = upd (τ.2 0) nk (nI a) k ∧ upd (σ.2 2) nk (nI b) k = upd (τ.2 1) nk (nI b) k ∧ ∀ s, s < 4 → wr (σ.2 3) (4 * nk) inh 4 (4 * k + s) = wr (τ.2 2) (4 * nk) inh 4 (4 * k + s) ∧ (wr (τ.2 2) (4 * nk) inh 4 (4 * k + s) = -1 ∨ ∃ m, m < nf ∧ wr (τ.2 2) (4 * nk) inh 4 (4 * k + s) = nI m)
      by_cases hc : k = nk
      · subst hc
        rw [upd_s, upd_s, upd_s, upd_s]
        refine ⟨rfl, rfl, fun s hs => ?_⟩
        rw [wr_in hs, wr_in hs]
        exact ⟨rfl, hinh s hs⟩
      · rw [upd_n hc, upd_n hc, upd_n hc, upd_n hc]
        obtain ⟨z1, z2, z3⟩ := r4 k (by omega)
        refine ⟨z1, z2, fun s hs => ?_⟩
        rw [wr_lo (by omega), wr_lo (by omega)]
        exact z3 s hs
    · obtain ⟨a1, a2, a3, a4, a5, a6⟩ := q7 m hm
      refine ⟨a1, a2, a3, a4, a5, fun k hk => ?_⟩
      obtain ⟨b1, b2, b3, b4, b5⟩ := a6 k hk
      exact ⟨b1, b2, b3, b4, b5.mono (by omega)⟩
    · intro j h6 _ _; exact upd_n h6
    · intro j h2 _ _; exact upd_n h2
    · intro k hk
      show va_up (va_up (va_up τ.2 0 _) 1 _) 2 _ k = _
      rw [va_up_n (by omega), va_up_n (by omega), va_up_n (by omega)]
    · intro k hk
      show upd (τ.2 0) nk (nI a) k = τ.2 0 k ∧ upd (τ.2 1) nk (nI b) k = τ.2 1 k
      rw [upd_n (by omega), upd_n (by omega)]; exact ⟨rfl, rfl⟩
theorem lt_nonneg {x : Int32} {r : Nat} (hr : r < 100000) (h : x < 0) : x < nI r := by
  have : (0 : Int32) ≤ nI r := nI_ge0 hr
  rw [Int32.lt_iff_toInt_lt] at h ⊢
  rw [Int32.le_iff_toInt_le] at this
  omega
theorem kind_mid {x1 x2 x3 : Int32} {inh : Nat → Int32} {R I : Nat} (h : RR n nk nf op pc σ τ) (hn : nk < 4) (hRl : R ≤ 3) (hIl : I ≤ 3) (hx : (x1 = -1 ∧ (∀ i, inh i = -1)) ∨ ∃ k, k < nk ∧ x1 = nI k ∧ (∀ i, inh i = τ.2 2 (4 * k + i))) :
    Do n (fKinds_load_J55 (2 * n) σ x1 x2 x3 (nI R) (nI I)) ((fMod_below τ x2 4).bind fun p23 => if p23.1 = 0 then (some ((-1), p23.2)) else ((fMod_below p23.2 x3 4).bind fun p31 => if p31.1 = 0 then (some ((-1), p31.2)) else (if x2 < nI R then some (-1, p31.2) else (if nI I ≤ x3 then fMod_kind_J65 p31.2 x1 x2 x3 else some (-1, p31.2))))) := by
  have same : Do n (some (-1, σ)) (some (-1, τ)) := ⟨_, _, rfl, rfl, rfl, nk, nf, op, pc, h⟩
  have hX : fKinds_load_J55 (2 * n) σ x1 x2 x3 (nI R) (nI I) = some (-1, σ) ∨ (¬ x2 < nI R ∧ ¬ 3 < x2 ∧ ¬ x3 < nI I ∧ x3 ≤ 3) := by
    unfold fKinds_load_J55
    by_cases c1 : x2 < nI R
    · left; rw [if_pos c1]
    by_cases c2 : 3 < x2
    · left; rw [if_neg c1, if_pos c2]
    by_cases c3 : x3 < nI I
    · left; rw [if_neg c1, if_neg c2, if_pos c3]
    by_cases c4 : x3 ≤ 3
    · exact Or.inr ⟨c1, c2, c3, c4⟩
    · left; rw [if_neg c1, if_neg c2, if_neg c3, if_neg c4]
  rw [show (4 : Int32) = nI 4 from rfl]
  rcases m_below τ x2 (N := 4) (by omega) with ⟨b1, b2⟩ | ⟨b1, b2, b3, a, b4, rfl⟩
  · rw [b1, Option.bind_some]
    rcases hX with hX | ⟨c1, c2, -, -⟩
    · rw [hX]; exact same
    · exfalso
      rcases b2 with b2 | b2
      · exact c1 (lt_nonneg (by omega) b2)
      · exact c2 ((three4 x2).mpr b2)
  rw [b1, Option.bind_some]
  show Do n _ (if (1 : Int32) = 0 then _ else ((fMod_below τ x3 (nI 4)).bind _))
  rw [if_neg (show ¬ (1 : Int32) = 0 by decide)]
  rcases m_below τ x3 (N := 4) (by omega) with ⟨d1, d2⟩ | ⟨d1, d2, d3, b, d4, rfl⟩
  · rw [d1, Option.bind_some]
    rcases hX with hX | ⟨c1, c2, c3, c4⟩
    · rw [hX]; exact same
    · exfalso
      rcases d2 with d2 | d2
      · exact c3 (lt_nonneg (by omega) d2)
      · exact (three x3).mp c4 ((three4 x3).mpr d2)
  rw [d1, Option.bind_some]
  show Do n _ (if (1 : Int32) = 0 then _ else (if nI a < nI R then some (-1, τ) else (if nI I ≤ nI b then fMod_kind_J65 τ x1 (nI a) (nI b) else some (-1, τ))))
  rw [if_neg (show ¬ (1 : Int32) = 0 by decide)]
  by_cases c1 : nI a < nI R
  · rw [if_pos c1]
    rcases hX with hX | ⟨c1', -⟩
    · rw [hX]; exact same
    · exact absurd c1 c1'
  rw [if_neg c1]
  by_cases c2 : nI I ≤ nI b
  · rw [if_pos c2]
    rw [nI_lt' (by omega) (by omega)] at c1
    rw [nI_le' (by omega) (by omega)] at c2
    exact kind_in h hn b4 d4 hx (by omega) c2
  · rw [if_neg c2]
    rcases hX with hX | ⟨-, -, c3', -⟩
    · rw [hX]; exact same
    · exact absurd (Int32.not_lt.mp c3') c2
theorem m_kind1 {K x2 x3 R I : Int32} (h4 : ¬ τ.1 2 = 4) (hm : ¬ K < -1) (hnk : ¬ τ.1 2 ≤ K) (hK : (K < 0 ∧ (∀ a, a < 4 → ¬ nI a < R ∧ I ≤ nI a)) ∨ (¬ K < 0 ∧ ix K 4 ∧ τ.2 0 K.toNatClampNeg = R ∧ τ.2 1 K.toNatClampNeg = I)) : fMod_kind τ K x2 x3 = ((fMod_below τ x2 4).bind fun p23 => if p23.1 = 0 then (some ((-1), p23.2)) else ((fMod_below p23.2 x3 4).bind fun p31 => if p31.1 = 0 then (some ((-1), p31.2)) else (if x2 < R then some (-1, p31.2) else (if I ≤ x3 then fMod_kind_J65 p31.2 K x2 x3 else some (-1, p31.2))))) := by
  unfold fMod_kind
  rw [if_neg h4, if_neg hm, if_neg hnk, show (4 : Int32) = nI 4 from rfl]
  rcases m_below τ x2 (N := 4) (by omega) with ⟨b1, b2⟩ | ⟨b1, b2, b3, a, b4, b5⟩
  · rw [b1, Option.bind_some, Option.bind_some, if_pos (show ((0 : Int32), τ).1 = 0 from rfl), if_pos (show ((0 : Int32), τ).1 = 0 from rfl)]
  rw [b1, Option.bind_some, Option.bind_some, if_neg (show ¬ ((1 : Int32), τ).1 = 0 from (by decide : ¬ (1 : Int32) = 0)), if_neg (show ¬ ((1 : Int32), τ).1 = 0 from (by decide : ¬ (1 : Int32) = 0))]
  show ((fMod_below τ x3 (nI 4)).bind _) = ((fMod_below τ x3 (nI 4)).bind _)
  rcases m_below τ x3 (N := 4) (by omega) with ⟨d1, d2⟩ | ⟨d1, d2, d3, b, d4, d5⟩
  · rw [d1, Option.bind_some, Option.bind_some, if_pos (show ((0 : Int32), τ).1 = 0 from rfl), if_pos (show ((0 : Int32), τ).1 = 0 from rfl)]
  rw [d1, Option.bind_some, Option.bind_some, if_neg (show ¬ ((1 : Int32), τ).1 = 0 from (by decide : ¬ (1 : Int32) = 0)), if_neg (show ¬ ((1 : Int32), τ).1 = 0 from (by decide : ¬ (1 : Int32) = 0))]
  rcases hK with ⟨k1, k2⟩ | ⟨k1, k2, k3, k4⟩
  · rw [if_pos k1, if_neg (by rw [b5]; exact (k2 a b4).1), if_pos (by rw [d5]; exact (k2 b d4).2)]
  · subst k3 k4
    rw [if_neg k1, gd k2, gd k2]
theorem x_kind1 {L : Nat} {K x2 x3 R I : Int32} (hK : ¬ K = -1) (iK : ix K 4) (hR : σ.2 1 K.toNatClampNeg = R) (hI : σ.2 2 K.toNatClampNeg = I) : fKinds_load_J23 L σ K x2 x3 = fKinds_load_J55 L σ K x2 x3 R I := by
  subst hR hI
  unfold fKinds_load_J23 fKinds_load_J38
  rw [if_neg hK, if_neg hK, gd iK, gd iK]
theorem kind_ok (h : RR n nk nf op pc σ τ) (x1 x2 x3 : Int32) : Do n (fMach_kind (2 * n) σ x1 x2 x3) (fMod_kind τ x1 x2 x3) := by
  have same : Do n (some (-1, σ)) (some (-1, τ)) := ⟨_, _, rfl, rfl, rfl, nk, nf, op, pc, h⟩
  have hRK := h.1.1
  obtain ⟨r1, r2, r3, r4⟩ := h.1.1
  have hn4 := r3.1
  by_cases h4 : nI nk = 4
  · unfold fMach_kind fKinds_load fMod_kind
    rw [bnd, r1, r2, if_pos h4, if_pos h4]; exact same
  have hn : nk < 4 := by
    rw [show (4 : Int32) = nI 4 from rfl, nI_eq' (by omega) (by omega)] at h4; omega
  have hX0 : fMach_kind (2 * n) σ x1 x2 x3 = (if x1 = (-1) then (fKinds_load_J23 (2 * n) σ x1 x2 x3) else ((fKinds_has (2 * n) σ x1).bind fun p15 => if p15.1 = 0 then (some ((-1), p15.2)) else (fKinds_load_J23 (2 * n) p15.2 x1 x2 x3))) := by
    unfold fMach_kind fKinds_load
    rw [bnd, if_neg (by rw [r1]; exact h4)]
  by_cases hx : x1 = -1
  · have hm := kind_mid (x2 := x2) (x3 := x3) (R := 0) (I := 0) (inh := fun _ => -1) h hn (by omega) (by omega) (Or.inl ⟨hx, fun _ => rfl⟩)
    rw [← m_kind1 (by rw [r2]; exact h4) (by rw [hx]; decide) (by rw [hx, r2]; exact Int32.not_le.mpr (m1_lt nk (by omega))) (Or.inl ⟨by rw [hx]; decide, fun a ha => ⟨by rw [nI_lt' (by omega) (by omega)]; omega, by rw [nI_le' (by omega) (by omega)]; omega⟩⟩)] at hm
    rw [hX0, if_pos hx]
    unfold fKinds_load_J23 fKinds_load_J38
    rw [if_pos hx, if_pos hx]
    exact hm
  · rw [hX0, if_neg hx]
    rcases x_has (n := n) hRK x1 with ⟨a1, a2, a3⟩ | ⟨k, k1, hk, a1, a2⟩
    · rw [a1, Option.bind_some]
      unfold fMod_kind
      rw [if_neg (show ¬ τ.1 2 = 4 by rw [r2]; exact h4)]
      have : x1 < -1 ∨ τ.1 2 ≤ x1 := by
        rcases a3 with a3 | a3
        · left
          rw [Int32.lt_iff_toInt_lt] at a3 ⊢
          have e1 : (-1 : Int32).toInt = -1 := by decide
          have e0 : (0 : Int32).toInt = 0 := by decide
          have : ¬ x1.toInt = -1 := fun e => hx (Int32.toInt_inj.mp (e.trans e1.symm))
          omega
        · exact Or.inr (by rw [r2]; exact a3)
      by_cases c : x1 < -1
      · rw [if_pos c]; exact same
      · rw [if_neg c, if_pos (this.resolve_left c)]; exact same
    · obtain ⟨z1, z2, z3⟩ := r4 k k1
      have kr := kr_le r3 k1
      have ki := ki_le r3 k1
      have iK : ix x1 4 := by rw [hk]; exact ix_n (by omega) (by omega)
      have tK : x1.toNatClampNeg = k := by rw [hk]; exact nI_tc (by omega)
      have hm := kind_mid (x2 := x2) (x3 := x3) (R := krN τ k) (I := kiN τ k) (inh := fun i => τ.2 2 (4 * k + i)) h hn kr.1 ki.1 (Or.inr ⟨k, k1, hk, fun _ => rfl⟩)
      rw [← m_kind1 (by rw [r2]; exact h4) (by rw [hk]; exact Int32.not_lt.mpr (Int32.le_of_lt (m1_lt k (by omega)))) (by rw [hk, r2, nI_le' (by omega) (by omega)]; omega) (Or.inr ⟨by rw [hk]; exact nI_nlt0 (by omega), iK, by rw [tK]; exact kr.2, by rw [tK]; exact ki.2⟩)] at hm
      rw [a1, Option.bind_some, if_neg (show ¬ ((1 : Int32), σ).1 = 0 from (by decide : ¬ (1 : Int32) = 0))]
      rw [show fKinds_load_J23 (2 * n) ((1 : Int32), σ).2 x1 x2 x3 = fKinds_load_J55 (2 * n) σ x1 x2 x3 (nI (krN τ k)) (nI (kiN τ k)) from x_kind1 hx iK (by rw [tK, z1]; exact kr.2) (by rw [tK, z2]; exact ki.2)]
      exact hm
end KD2
