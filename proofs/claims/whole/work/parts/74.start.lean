/-! start -/
theorem m_below (τ : St) (x : Int32) {N : Nat} (hN : N < 100000) : (fMod_below τ x (nI N) = some (0, τ) ∧ (x < 0 ∨ nI N ≤ x)) ∨ (fMod_below τ x (nI N) = some (1, τ) ∧ ¬ x < 0 ∧ ¬ nI N ≤ x ∧ ∃ j, j < N ∧ x = nI j) := by
  unfold fMod_below
  by_cases h1 : x < 0
  · rw [if_pos h1]; exact Or.inl ⟨rfl, Or.inl h1⟩
  · rw [if_neg h1]
    by_cases h2 : nI N ≤ x
    · rw [if_pos h2]; exact Or.inl ⟨rfl, Or.inr h2⟩
    · rw [if_neg h2]
      rcases pk_ix x (n := N) (by omega) with h | h | h
      · exact absurd h h1
      · exact absurd h h2
      · exact Or.inr ⟨rfl, h1, h2, h⟩
def zeA (τ : St) (i : Nat) : Nat → Int32 := fun p => if p < i then 0 else τ.2 6 p
theorem zeA_s {τ : St} {i : Nat} : upd (zeA τ i) i 0 = zeA τ (i + 1) := by
  funext p
  by_cases h : p = i
  · subst h; rw [upd_s]; unfold zeA; rw [if_pos (by omega)]
  · rw [upd_n h]; unfold zeA
    by_cases h2 : p < i
    · rw [if_pos h2, if_pos (by omega)]
    · rw [if_neg h2, if_neg (by omega)]
theorem m_startLoop (τ : St) (x1 x2 : Int32) : rbLoop (fMod_start_B12 x1 x2) rbF (0, τ) = some (0, (nI 240, (τ.1, va_up τ.2 6 (zeA τ 240)))) := by
  have hcnt := rbLoop_count (f := fMod_start_B12 x1 x2) (fun i => (nI i, (τ.1, va_up τ.2 6 (zeA τ i)))) 240 ?_ 0 (nI 240, (τ.1, va_up τ.2 6 (zeA τ 240))) (by decide) ?_ rbF 0 (by omega) (by rw [rbF_val]; omega)
  · have e0 : va_up τ.2 6 (zeA τ 0) = τ.2 := by
      have : zeA τ 0 = τ.2 6 := by funext p; unfold zeA; rw [if_neg (by omega)]
      rw [this, va_id]
    rw [e0] at hcnt
    exact hcnt
  · intro i hi
    have hg : ix (nI i) 240 := ix_n hi (by omega)
    have hc : (nI i).toNatClampNeg = i := nI_tc (by omega)
    have hlt : ¬ (240 : Int32) ≤ nI i := by rw [show (240 : Int32) = nI 240 from rfl, nI_le' (by omega) (by omega)]; omega
    have e1 : nI i + 1 = nI (i + 1) := nI_1 i
    show fMod_start_B12 x1 x2 (nI i, (τ.1, va_up τ.2 6 (zeA τ i))) = some (1, (nI (i + 1), (τ.1, va_up τ.2 6 (zeA τ (i + 1)))))
    rw [← e1]
    have hs := zeA_s (τ := τ) (i := i)
    generalize nI i = I at hg hc hlt ⊢
    subst hc
    unfold fMod_start_B12
    show (if (240 : Int32) ≤ I then _ else if ix I 240 then some (1, (I + 1, (τ.1, va_up (va_up τ.2 6 (zeA τ I.toNatClampNeg)) 6 (upd (zeA τ I.toNatClampNeg) I.toNatClampNeg 0)))) else none) = _
    rw [if_neg hlt, gd hg, va_va, hs]
  · unfold fMod_start_B12
    show (if (240 : Int32) ≤ nI 240 then _ else _) = _
    rw [if_pos (by decide)]
section STT
variable {n nk nf op pc : Nat} {σ τ : St}
theorem fin_eq (h : RM σ τ nk nf op) (x : Int32) : (fMeths_isFinished (2 * n) σ x = some (0, σ) ∧ fMod_finished τ x = some (0, τ)) ∨ ∃ m, m < nf ∧ x = nI m ∧ fMeths_isFinished (2 * n) σ x = some (1, σ) ∧ fMod_finished τ x = some (1, τ) := by
  obtain ⟨h1, h2, h3, h4, h5, h6, -⟩ := h
  have hM : fMod_finished τ x = ((fMod_below τ x (nI nf)).bind fun p21 => if (p21.1 = 0 ∨ p21.1 = 1) then some (p21.1, p21.2) else none) := by
    unfold fMod_finished
    by_cases ho : op = 0
    · subst ho
      rw [if_pos (by rw [h3]; rfl), h4, Nat.add_zero]
    · have : op = 1 := by omega
      subst this
      rw [if_neg (by rw [h3]; decide), h4, show nI (nf + 1) - 1 = nI nf by rw [show (1 : Int32) = nI 1 from rfl, pk_sub (by omega)]; rfl]
  have hX : fMeths_isFinished (2 * n) σ x = if x < 0 then some (0, σ) else (if nI nf ≤ x then some (0, σ) else some (1, σ)) := by
    unfold fMeths_isFinished; rw [h1]
  rcases m_below τ x (N := nf) (by omega) with ⟨b1, b2⟩ | ⟨b1, b2, b3, m, b4, b5⟩
  · refine Or.inl ⟨?_, ?_⟩
    · rw [hX]
      rcases b2 with b2 | b2
      · rw [if_pos b2]
      · rw [if_pos b2]
        by_cases hc : x < 0
        · rw [if_pos hc]
        · rw [if_neg hc]
    · rw [hM, b1]; rfl
  · refine Or.inr ⟨m, b4, b5, ?_, ?_⟩
    · rw [hX, if_neg b2, if_neg b3]
    · rw [hM, b1]; rfl
theorem rh_empty {σ τ : St} (ad fr ro : Nat → Nat) (hn : 24 ≤ n ∧ n ≤ 120 ∧ nf ≤ 6 ∧ KdT τ nk) (e12 : σ.1 12 = 0) (e13 : σ.1 13 = 0) (e17 : σ.1 17 = nI n) (e9 : σ.1 9 = nI n) (e14 : σ.1 14 = 0) (e15 : σ.1 15 = 0) (f0 : τ.1 0 = nI n) (f5 : τ.1 5 = 0) (f6 : τ.1 6 = 0) (f7 : τ.1 7 = 0) (f8 : τ.1 8 = 0) (ha : ∀ p, p < 240 → τ.2 6 p = 0) : RH n nk nf True σ τ ad fr ro 0 0 n 0 0 0 0 0 := by
  refine ⟨hn, ⟨Or.inl rfl, e12, e13, e17, e9, f0, by omega, by omega, by omega, ?_, f6⟩, fun o ho h => absurd (ha o ho) h, fun o p ho _ h _ _ => absurd (ha o ho) h, ?_, ⟨fun i hi => absurd hi (by omega), rfl, ?_⟩, ⟨by omega, Or.inl rfl, e14, f7, f8, fun _ => e15, fun h => absurd rfl h⟩, fun _ => ⟨⟨by omega, Or.inl rfl⟩, ?_, fun i hi => absurd hi (by omega)⟩⟩
  · rw [f5, show n - (n - 0) = 0 by omega]; rfl
  · intro o ho h; rw [ha o ho] at h; exact absurd h (by decide)
  · intro o ho h; rw [ha o ho] at h; exact absurd h (by decide)
  · intro o ho h; rw [ha o ho] at h; exact absurd h (by decide)
theorem RR.wk (h : RR n nk nf op pc σ τ) : σ.1 19 = τ.1 16 ∧ σ.1 18 = τ.1 14 := by
  rcases h.2 with h | ⟨ad, cur, sk, dl, hH, -⟩
  · exact ⟨h.2.2.2.2.2.2.2.2.2, h.2.2.2.2.2.2.2.2.1⟩
  · exact ⟨hH.2.2.2.2.2.2.2.2.1, hH.2.2.2.2.2.2.2.2.2⟩
theorem start_ok (h : RR n nk nf op pc σ τ) (x y : Int32) : ∃ p q, fMach_start (2 * n) σ x y = some p ∧ fMod_start τ x y = some q ∧ p.1 = q.1 ∧ RR n nk nf op pc p.2 q.2 := by
  have hwk := h.wk
  rcases fin_eq (n := n) h.1.2.1 x with ⟨a1, a2⟩ | ⟨m, hm, rfl, a1, a2⟩
  · refine ⟨(0, σ), (0, τ), ?_, ?_, rfl, h⟩
    · unfold fMach_start; rw [a1, Option.bind_some]; rfl
    · unfold fMod_start; rw [a2, Option.bind_some]; rfl
  obtain ⟨⟨t1, t2, t3, t4, t5, t6, t7, t8, t9⟩, -⟩ := h
  obtain ⟨n1, n2, n3, n4⟩ := t5
  have hf6 : nf ≤ 6 := by have := t2.2.2.2.2.2.1; omega
  -- the class's empty room
  let σE : St := (upd (upd (upd (upd (upd (upd (upd (upd σ.1 12 0) 13 0) 14 0) 15 0) 16 0) 17 (0 + (σ.1 9))) 18 0) 20 0, σ.2)
  let τE : St := (upd (upd (upd (upd (upd (upd (upd (upd (upd (upd τ.1 5 0) 6 0) 7 0) 8 0) 14 0) 15 0) 17 0) 10 0) 13 0) 12 0, va_up τ.2 6 (zeA τ 240))
  have hE : RH n nk nf True σE τE (fun _ => 0) (fun _ => 0) (fun _ => 0) 0 0 n 0 0 0 0 0 := by
    refine rh_empty _ _ _ ⟨n3, n4, hf6, t1.2.2.1⟩ rfl rfl ?_ n1 rfl rfl n2 rfl rfl rfl rfl ?_
    · show (0 : Int32) + σ.1 9 = nI n
      rw [n1, Int32.zero_add]
    · intro p hp
      show zeA τ 240 p = 0
      unfold zeA; rw [if_pos hp]
  have hKv : KvOK τE nk nf (-1) (nI m) (4 + m) 4 4 := Or.inl ⟨rfl, m, hm, rfl, rfl, rfl, rfl⟩
  obtain ⟨o, o1, o2, hX, hM, hR⟩ := tail_sim hE hKv (by omega) (show σE.1 20 = 0 from rfl)
  have hXm : fRoom_make (2 * n) σE (nI (hdN (4 + m) 4 4)) = fRoom_make_J45 (2 * n) σE (nI (hdN (4 + m) 4 4)) (nI (1 + 4 + 4)) := by
    unfold fRoom_make
    rw [x_sizeIn (id := 4 + m) (r := 4) (i := 4) ⟨by omega, by omega, by omega, rfl⟩, Option.bind_some]
    show (fRoom_scanCells (2 * n) σE (σE.1 10 * nI (1 + 4 + 4))).bind _ = _
    have hsc : fRoom_scanCells (2 * n) σE (σE.1 10 * nI (1 + 4 + 4)) = some σE := by
      unfold fRoom_scanCells
      rw [show rbLoop (fRoom_scanCells_B2 (2 * n) (σE.1 10 * nI (1 + 4 + 4))) rbF (0, σE) = some (0, (0, σE)) from rbLoop_end (k := 4095) (x_scanEnd (Or.inr (Or.inl (show (0 : Int32) ≤ 0 by decide)))) (by decide), Option.bind_some]
    rw [hsc, Option.bind_some, if_pos (show σE.1 20 = 0 from rfl), x_free (re := 0) (ns := n) rfl hE.2.1.2.2.2.1 (by omega), Option.bind_some]
    show (if nI (1 + 4 + 4) ≤ nI (n - 0) then fRoom_make_J45 (2 * n) σE (nI (hdN (4 + m) 4 4)) (nI (1 + 4 + 4)) else _) = _
    rw [if_pos (show nI (1 + 4 + 4) ≤ nI (n - 0) by rw [nI_le' (by omega) (by omega)]; omega)]
  have hMc : fMod_create τE (-1) (nI m) = some (nI o, (upd τE.1 5 (τE.1 5 + nI (1 + 4 + 4)), crA τE o (-1) (nI m))) := by
    rw [← hM]
    unfold fMod_make_J97
    rw [if_pos (show τE.1 5 + nI (1 + 4 + 4) ≤ τE.1 0 by show (0 : Int32) + nI 9 ≤ τ.1 0; rw [n2, Int32.zero_add, nI_le' (by omega) (by omega)]; omega), bnd]
  have hfar := crA_far (τ := τE) (o := o) (kv := -1) (mv := nI m) (τ1 := upd (upd τE.1 5 (τE.1 5 + nI (1 + 4 + 4))) 9 (nI o))
  have hH : HP n nk nf True (upd (upd (upd σE.1 20 0) 17 (nI (n - (1 + 4 + 4)))) 11 (nI (n - (1 + 4 + 4))), va_up σE.2 10 (newc (σE.2 10) (n - (1 + 4 + 4)) (nI (hdN (4 + m) 4 4)) 4 (1 + 4 + 4))) (upd (upd τE.1 5 (τE.1 5 + nI (1 + 4 + 4))) 9 (nI o), crA τE o (-1) (nI m)) (put (fun _ => 0) o (n - (1 + 4 + 4))) o (fun _ => o) 1 := by
    refine ⟨⟨_, _, _, _, _, _, _, _, hR⟩, o1, Or.inl upd_s, rfl, ?_, ⟨by omega, fun i hi => ⟨o1, ?_, upd_s⟩, fun i hi => absurd hi (by omega), (hfar.1 3 (by omega)).1, fun i j hi hj _ => by omega⟩, rfl, fun i h1 h2 => absurd h2 (by omega), hwk.1, rfl⟩
    · show nI (n - (1 + 4 + 4)) = nI (put (fun _ => 0) o (n - (1 + 4 + 4)) o)
      rw [put_s]
    · show upd (τE.2 6) o 1 o ≠ 0
      rw [upd_s]; decide
  have hnr := frame_nr (τ := (upd (upd τE.1 5 (τE.1 5 + nI (1 + 4 + 4))) 9 (nI o), crA τE o (-1) (nI m))) (cur := o) upd_s
  obtain ⟨hX2, hH2⟩ := hp_setInt (o := o) (j := 0) hH o1 (Or.inl upd_s) (by omega) (Or.inl (by omega)) y
  let σN : St := (upd (upd (upd σE.1 20 0) 17 (nI (n - (1 + 4 + 4)))) 11 (nI (n - (1 + 4 + 4))), va_up σE.2 10 (newc (σE.2 10) (n - (1 + 4 + 4)) (nI (hdN (4 + m) 4 4)) 4 (1 + 4 + 4)))
  let τN : St := (upd (upd τE.1 5 (τE.1 5 + nI (1 + 4 + 4))) 9 (nI o), crA τE o (-1) (nI m))
  let σZ : St := (upd (upd (upd (upd (upd σN.1 1 0) 2 0) 3 0) 0 0) 5 0, va_up σN.2 10 (upd (σN.2 10) (put (fun _ => 0) o (n - (1 + 4 + 4)) o + 1 + nrN τN o + 0) y))
  have hX3 : fRoom_setInt (2 * n) σN (nI (n - (1 + 4 + 4))) (nI 0) y = some (σN.1, va_up σN.2 10 (upd (σN.2 10) (put (fun _ => 0) o (n - (1 + 4 + 4)) o + 1 + nrN τN o + 0) y)) := by
    have e : put (fun _ => 0) o (n - (1 + 4 + 4)) o = n - (1 + 4 + 4) := put_s
    have := hX2
    generalize put (fun _ => 0) o (n - (1 + 4 + 4)) o = P at e this ⊢
    subst e
    exact this
  refine ⟨(1, σZ), (1, (upd (upd τE.1 5 (τE.1 5 + nI (1 + 4 + 4))) 9 (nI o), va_up (crA τE o (-1) (nI m)) 10 (upd ((crA τE o (-1) (nI m)) 10) (4 * o + 0) y))), ?_, ?_, rfl, ⟨t1, t2, ⟨0, rfl, rfl, fun j _ hj => absurd hj (by omega)⟩, t4, ⟨n1, n2, n3, n4⟩, t6, rfl, ⟨rfl, Or.inl rfl⟩, t9⟩, Or.inr ⟨_, o, _, 1, HP.weak (run := True) hH2 (fun _ => trivial), Or.inr (Or.inl ⟨rfl, rfl, rfl, rfl, fun _ => ⟨m, 0, upd_s, by omega, (show 0 < lenN τ m from (t2.2.2.2.2.2.2.2 m hm).1), ?_⟩⟩)⟩⟩
  · unfold fMach_start
    rw [a1, Option.bind_some]
    show (if (1 : Int32) = 0 then _ else (fRoom_restart (2 * n) σ (nI m)).bind _) = _
    rw [if_neg (by decide)]
    unfold fRoom_restart fRoom_useSpace
    rw [Option.bind_some]
    show Option.bind (Option.bind (fRoom_headOfFrame (2 * n) σE (nI m)) _) _ = _
    rw [x_headOfFrame (by omega), Option.bind_some]
    show Option.bind (Option.bind (fRoom_make (2 * n) σE (nI (hdN (4 + m) 4 4))) _) _ = _
    rw [hXm, hX, Option.bind_some, Option.bind_some]
    show Option.bind (fRoom_setInt (2 * n) σN (nI (n - (1 + 4 + 4))) (nI 0) y) _ = _
    rw [hX3, Option.bind_some]
  · unfold fMod_start
    rw [a2, Option.bind_some]
    show (if (1 : Int32) = 0 then _ else (rbLoop (fMod_start_B12 (nI m) y) rbF (0, τ)).bind _) = _
    rw [if_neg (by decide), m_startLoop, Option.bind_some]
    show Option.bind (fMod_create τE (-1) (nI m)) _ = _
    rw [hMc, Option.bind_some]
    have e4 : (4 : Int32) * nI o = nI (4 * o) := by rw [show (4 : Int32) = nI 4 from rfl, pk_mul]
    show (if ix ((4 : Int32) * nI o) 960 then some ((1 : Int32), (upd (upd τE.1 5 (τE.1 5 + nI (1 + 4 + 4))) 9 (nI o), va_up (crA τE o (-1) (nI m)) 10 (upd ((crA τE o (-1) (nI m)) 10) ((4 : Int32) * nI o).toNatClampNeg y))) else none) = _
    rw [e4, gd (ix_n (by omega) (by omega)), nI_tc (by omega)]
    rfl
  · show upd ((crA τE o (-1) (nI m)) 10) (4 * o + 0) y (4 * o + 3) = nI 0
    rw [upd_n (by omega)]
    exact (hfar.1 3 (by omega)).2
end STT
