/-! the heaps side by side. c: the class's cells; ad: where an object of the reference lies; fr: where a moved one lay; ro: the row -/
/-- a ref's cell holds v: where its object is, or (of a moved one) was -/
def RefOK (τ : St) (ad fr : Nat → Nat) (o j : Nat) (v : Int32) : Prop :=
  (τ.2 9 (4 * o + j) = -1 ∧ v = -1) ∨ ∃ t, t < 240 ∧ τ.2 9 (4 * o + j) = nI t ∧ τ.2 6 t ≠ 0 ∧ (τ.2 7 t = -1 ↔ (τ.2 7 o = -1 ∧ j = 3)) ∧ (v = nI (ad t) ∨ (τ.2 6 t = 2 ∧ v = nI (fr t)))
def Clean (τ : St) (ad : Nat → Nat) (o j : Nat) (v : Int32) : Prop :=
  (τ.2 9 (4 * o + j) = -1 ∧ v = -1) ∨ ∃ t, t < 240 ∧ τ.2 9 (4 * o + j) = nI t ∧ (τ.2 6 t = 1 ∨ τ.2 6 t = 2) ∧ v = nI (ad t)
/-- one live object -/
def HO1 (n nk nf : Nat) (τ : St) (c : Nat → Int32) (ad fr : Nat → Nat) (bs re ns o : Nat) : Prop :=
  (τ.2 6 o = 1 ∨ τ.2 6 o = 2 ∨ τ.2 6 o = 3) ∧ ObT τ nk nf o ∧ c (ad o) = nI (hdN (idN τ o) (nrN τ o) (niN τ o)) ∧
  (τ.2 6 o = 1 → ns ≤ ad o ∧ ad o + szN τ o ≤ bs + n) ∧ (τ.2 6 o = 2 → bs ≤ ad o ∧ ad o + szN τ o ≤ re) ∧ (τ.2 6 o = 3 → n - bs ≤ ad o ∧ ad o + szN τ o ≤ n - bs + n) ∧
  (∀ j, j < niN τ o → c (ad o + 1 + nrN τ o + j) = τ.2 10 (4 * o + j)) ∧ (∀ j, j < nrN τ o → RefOK τ ad fr o j (c (ad o + 1 + j)))
def HO (n nk nf : Nat) (τ : St) (c : Nat → Int32) (ad fr : Nat → Nat) (bs re ns : Nat) : Prop := ∀ o, o < 240 → τ.2 6 o ≠ 0 → HO1 n nk nf τ c ad fr bs re ns o
def HD (τ : St) (ad : Nat → Nat) : Prop := ∀ o p, o < 240 → p < 240 → τ.2 6 o ≠ 0 → τ.2 6 p ≠ 0 → o ≠ p → ad o + szN τ o ≤ ad p ∨ ad p + szN τ p ≤ ad o
def HF (n : Nat) (τ : St) (c : Nat → Int32) (ad fr : Nat → Nat) (bs : Nat) : Prop := ∀ o, o < 240 → τ.2 6 o = 2 → n - bs ≤ fr o ∧ fr o < n - bs + n ∧ c (fr o) = (-1 : Int32) - nI (ad o) ∧ ∀ p, p < 240 → τ.2 6 p = 3 → fr o < ad p ∨ ad p + szN τ p ≤ fr o
def rsz (τ : St) (ro : Nat → Nat) : Nat → Nat := fun i => szN τ (ro i)
def HR (τ : St) (ad ro : Nat → Nat) (bs re rl : Nat) : Prop := (∀ i, i < rl → ro i < 240 ∧ τ.2 6 (ro i) = 2 ∧ τ.2 11 i = nI (ro i) ∧ ad (ro i) = bs + sumTo (rsz τ ro) i) ∧ re = bs + sumTo (rsz τ ro) rl ∧ ∀ o, o < 240 → τ.2 6 o = 2 → ∃ i, i < rl ∧ ro i = o
def HG (n : Nat) (σ τ : St) (bs re ns rl : Nat) : Prop := (bs = 0 ∨ bs = n) ∧ σ.1 12 = nI bs ∧ σ.1 13 = nI re ∧ σ.1 17 = nI ns ∧ σ.1 9 = nI n ∧ τ.1 0 = nI n ∧ bs ≤ re ∧ re ≤ ns ∧ ns ≤ bs + n ∧ τ.1 5 = nI (n - (ns - re)) ∧ τ.1 6 = nI rl
def HS (σ τ : St) (ro : Nat → Nat) (bs rl so cc : Nat) : Prop := so ≤ rl ∧ (cc = 0 ∨ (so < rl ∧ cc < szN τ (ro so))) ∧ σ.1 14 = nI (bs + sumTo (rsz τ ro) so + cc) ∧ τ.1 7 = nI so ∧ τ.1 8 = nI cc ∧ (cc = 0 → σ.1 15 = nI (bs + sumTo (rsz τ ro) so)) ∧ (cc ≠ 0 → σ.1 15 = nI (bs + sumTo (rsz τ ro) (so + 1)) ∧ σ.1 16 = nI (bs + sumTo (rsz τ ro) so + 1 + nrN τ (ro so)))
def HC (τ : St) (c : Nat → Int32) (ad ro : Nat → Nat) (rl zs zc : Nat) : Prop := (zs ≤ rl ∧ (zc = 0 ∨ zs < rl)) ∧ (∀ o, o < 240 → τ.2 6 o = 1 → ∀ j, j < nrN τ o → Clean τ ad o j (c (ad o + 1 + j))) ∧ ∀ i, i < rl → ∀ j, j < nrN τ (ro i) → (i < zs ∨ (i = zs ∧ j + 1 < zc)) → Clean τ ad (ro i) j (c (ad (ro i) + 1 + j))
/-- all of it; the last only while the machine runs -/
def RH (n nk nf : Nat) (run : Prop) (σ τ : St) (ad fr ro : Nat → Nat) (bs re ns rl so cc zs zc : Nat) : Prop :=
  (24 ≤ n ∧ n ≤ 120 ∧ nf ≤ 6 ∧ KdT τ nk) ∧ HG n σ τ bs re ns rl ∧ HO n nk nf τ (σ.2 10) ad fr bs re ns ∧ HD τ ad ∧ HF n τ (σ.2 10) ad fr bs ∧ HR τ ad ro bs re rl ∧ HS σ τ ro bs rl so cc ∧ (run → HC τ (σ.2 10) ad ro rl zs zc)
/-! moving -/
def mvc (c : Nat → Int32) (a re s : Nat) : Nat → Int32 := upd (va_cpy c c a re s) a ((-1 : Int32) - nI re)
theorem mvc_hd {c : Nat → Int32} {a re s : Nat} : mvc c a re s a = (-1 : Int32) - nI re := upd_s
theorem mvc_new {c : Nat → Int32} {a re s k : Nat} (hk : k < s) (h : re + k ≠ a) : mvc c a re s (re + k) = c (a + k) := by
  unfold mvc
  rw [upd_n h, pk_cpy_in (by omega) (by omega)]
  congr 1; omega
theorem mvc_old {c : Nat → Int32} {a re s x : Nat} (h : x ≠ a) (h2 : x < re ∨ re + s ≤ x) : mvc c a re s x = c x := by
  unfold mvc
  rw [upd_n h, pk_cpy_out h2]
def put (f : Nat → Nat) (k v : Nat) : Nat → Nat := fun x => if x = k then v else f x
theorem put_s {f : Nat → Nat} {k v : Nat} : put f k v k = v := if_pos rfl
theorem put_n {f : Nat → Nat} {k v x : Nat} (h : x ≠ k) : put f k v x = f x := if_neg h
section MV
variable {n nk nf : Nat} {run : Prop} {σ τ : St} {ad fr ro : Nat → Nat} {bs re ns rl so cc zs zc o : Nat}
theorem i32_ne {a b : Int32} (h : a ≠ b) : ¬ a = b := h
theorem mv_age {x u s : Nat} : (mvS τ o rl u s).2 6 x = if x = o then 2 else τ.2 6 x := rfl
/-- an old object is moved -/
theorem RH_move (h : RH n nk nf run σ τ ad fr ro bs re ns rl so cc zs zc) (ho : o < 240) (h3 : τ.2 6 o = 3) (hfit : szN τ o ≤ ns - re) {σ1 : Nat → Int32} (e12 : σ1 12 = σ.1 12) (e13 : σ1 13 = nI (re + szN τ o)) (e17 : σ1 17 = σ.1 17) (e9 : σ1 9 = σ.1 9) (e14 : σ1 14 = σ.1 14) (e15 : σ1 15 = σ.1 15) (e16 : σ1 16 = σ.1 16) {α : Nat → Nat → Int32} (eα : α 10 = mvc (σ.2 10) (ad o) re (szN τ o)) :
    RH n nk nf run (σ1, α) (mvS τ o rl (n - (ns - re)) (szN τ o)) (put ad o re) (put fr o (ad o)) (put ro rl o) bs (re + szN τ o) ns (rl + 1) so cc zs zc := by
  obtain ⟨⟨hn1, hn2, hf6, hK⟩, hG, hO, hD, hF, hR, hS, hC⟩ := h
  obtain ⟨g1, g2, g3, g4, g5, g6, g7, g8, g9, g10, g11⟩ := hG
  have hOo := hO o ho (by rw [h3]; decide)
  obtain ⟨-, oT, oH, -, -, oP, oI, oR⟩ := hOo
  have oP := oP h3
  have hs := sz_le hK oT
  have hroL : ∀ i, i < rl → ro i ≠ o := fun i hi e => by
    have := (hR.1 i hi).2.1
    rw [e, h3] at this
    exact absurd this (by decide)
  have hrsz : ∀ i, i ≤ rl → sumTo (rsz τ (put ro rl o)) i = sumTo (rsz τ ro) i := fun i hi => sumTo_congr i (fun k hk => by unfold rsz; rw [put_n (by omega)])
  have hsum : sumTo (rsz τ (put ro rl o)) (rl + 1) = sumTo (rsz τ ro) rl + szN τ o := by
    show sumTo (rsz τ (put ro rl o)) rl + rsz τ (put ro rl o) rl = _
    rw [hrsz rl (Nat.le_refl _)]
    unfold rsz; rw [put_s]
  -- cells of the others stay
  have hkeep : ∀ p, p < 240 → p ≠ o → τ.2 6 p ≠ 0 → ∀ x, ad p ≤ x → x < ad p + szN τ p → mvc (σ.2 10) (ad o) re (szN τ o) x = σ.2 10 x := by
    intro p hp hpo hpa x hx1 hx2
    obtain ⟨pa, -, -, p1, p2, p3, -⟩ := hO p hp hpa
    have hd := hD p o hp ho hpa (by rw [h3]; decide) hpo
    refine mvc_old ?_ ?_
    · omega
    · rcases pa with h | h | h
      · have := p1 h; omega
      · have := p2 h; omega
      · have := p3 h; omega
  have hnew : ∀ k, k < szN τ o → mvc (σ.2 10) (ad o) re (szN τ o) (re + k) = σ.2 10 (ad o + k) := fun k hk => mvc_new hk (by omega)
  have href : ∀ p j v, RefOK τ ad fr p j v → RefOK (mvS τ o rl (n - (ns - re)) (szN τ o)) (put ad o re) (put fr o (ad o)) p j v := by
    intro p j v hv
    rcases hv with hv | ⟨t, t1, t2, t3, t4, t5⟩
    · exact Or.inl hv
    · refine Or.inr ⟨t, t1, t2, ?_, t4, ?_⟩
      · rw [mv_age]; split
        · decide
        · exact t3
      · rw [mv_age]
        by_cases ht : t = o
        · subst ht
          rw [if_pos rfl, put_s, put_s]
          rcases t5 with t5 | ⟨t5, -⟩
          · exact Or.inr ⟨rfl, t5⟩
          · rw [h3] at t5; exact absurd t5 (by decide)
        · rw [if_neg ht, put_n ht, put_n ht]; exact t5
  have hcl : ∀ p j v, Clean τ ad p j v → Clean (mvS τ o rl (n - (ns - re)) (szN τ o)) (put ad o re) p j v := by
    intro p j v hv
    rcases hv with hv | ⟨t, t1, t2, t3, t4⟩
    · exact Or.inl hv
    · have ht : t ≠ o := fun e => by rw [e, h3] at t3; exact absurd t3 (by decide)
      refine Or.inr ⟨t, t1, t2, ?_, ?_⟩
      · rw [mv_age, if_neg ht]; exact t3
      · rw [put_n ht]; exact t4
  have hage : ∀ p, p ≠ o → (mvS τ o rl (n - (ns - re)) (szN τ o)).2 6 p = τ.2 6 p := fun p hp => by rw [mv_age, if_neg hp]
  have hageo : (mvS τ o rl (n - (ns - re)) (szN τ o)).2 6 o = 2 := by rw [mv_age, if_pos rfl]
  refine ⟨⟨hn1, hn2, hf6, hK⟩, ?_, ?_, ?_, ?_, ?_, ?_, ?_⟩
  · refine ⟨g1, by rw [← g2]; exact e12, e13, by rw [← g4]; exact e17, by rw [← g5]; exact e9, g6, by omega, by omega, g9, ?_, rfl⟩
    show nI (n - (ns - re) + szN τ o) = _
    congr 1; omega
  · intro p hp hpa
    show HO1 n nk nf _ (α 10) _ _ bs (re + szN τ o) ns p
    rw [eα]
    by_cases hpo : p = o
    · subst hpo
      refine ⟨Or.inr (Or.inl hageo), oT, ?_, ?_, ?_, ?_, ?_, ?_⟩
      · rw [put_s]; have := hnew 0 (by omega); rw [Nat.add_zero, Nat.add_zero] at this; rw [this]; exact oH
      · intro h; rw [hageo] at h; exact absurd h (by decide)
      · intro _; rw [put_s]; exact ⟨g7, Nat.le_refl _⟩
      · intro h; rw [hageo] at h; exact absurd h (by decide)
      · intro j hj
        have hj' : j < niN τ p := hj
        have e := hnew (1 + nrN τ p + j) (by unfold szN; omega)
        rw [put_s]
        show mvc (σ.2 10) (ad p) re (szN τ p) (re + 1 + nrN τ p + j) = τ.2 10 (4 * p + j)
        rw [show re + 1 + nrN τ p + j = re + (1 + nrN τ p + j) by omega, e, show ad p + (1 + nrN τ p + j) = ad p + 1 + nrN τ p + j by omega]
        exact oI j hj'
      · intro j hj
        have hj' : j < nrN τ p := hj
        have e := hnew (1 + j) (by unfold szN; omega)
        rw [put_s, show re + 1 + j = re + (1 + j) by omega, e, show ad p + (1 + j) = ad p + 1 + j by omega]
        exact href p j _ (oR j hj')
    · have hpa' : τ.2 6 p ≠ 0 := by rw [hage p hpo] at hpa; exact hpa
      obtain ⟨pa, pT, pH, p1, p2, p3, pI, pR⟩ := hO p hp hpa'
      have hps := sz_le hK pT
      refine ⟨by rw [hage p hpo]; exact pa, pT, ?_, ?_, ?_, ?_, ?_, ?_⟩
      · rw [put_n hpo, hkeep p hp hpo hpa' _ (Nat.le_refl _) (by omega)]; exact pH
      · rw [hage p hpo, put_n hpo]; exact p1
      · rw [hage p hpo, put_n hpo]; intro h; have := p2 h; exact ⟨this.1, show ad p + szN τ p ≤ re + szN τ o by omega⟩
      · rw [hage p hpo, put_n hpo]; exact p3
      · intro j hj
        have hj' : j < niN τ p := hj
        rw [put_n hpo]
        show mvc (σ.2 10) (ad o) re (szN τ o) (ad p + 1 + nrN τ p + j) = τ.2 10 (4 * p + j)
        rw [hkeep p hp hpo hpa' _ (by omega) (by unfold szN; omega)]; exact pI j hj'
      · intro j hj
        have hj' : j < nrN τ p := hj
        rw [put_n hpo, hkeep p hp hpo hpa' _ (by omega) (by unfold szN; omega)]
        exact href p j _ (pR j hj')
  · intro p q hp hq hpa hqa hpq
    show put ad o re p + szN τ p ≤ put ad o re q ∨ put ad o re q + szN τ q ≤ put ad o re p
    have key : ∀ q, q < 240 → q ≠ o → (mvS τ o rl (n - (ns - re)) (szN τ o)).2 6 q ≠ 0 → re + szN τ o ≤ ad q ∨ ad q + szN τ q ≤ re := by
      intro q hq hqo hqa
      rw [hage q hqo] at hqa
      obtain ⟨qa, -, -, q1, q2, q3, -⟩ := hO q hq hqa
      rcases qa with h | h | h
      · have := q1 h; omega
      · have := q2 h; omega
      · have := q3 h; omega
    by_cases hpo : p = o
    · subst hpo
      rw [put_s, put_n (Ne.symm hpq)]
      exact key q hq (Ne.symm hpq) hqa
    · rw [put_n hpo]
      by_cases hqo : q = o
      · subst hqo
        rw [put_s]
        have := key p hp hpo hpa
        omega
      · rw [put_n hqo]
        rw [hage p hpo] at hpa
        rw [hage q hqo] at hqa
        exact hD p q hp hq hpa hqa hpq
  · intro p hp hpa
    show n - bs ≤ put fr o (ad o) p ∧ put fr o (ad o) p < n - bs + n ∧ α 10 (put fr o (ad o) p) = (-1 : Int32) - nI (put ad o re p) ∧ _
    rw [eα]
    by_cases hpo : p = o
    · subst hpo
      rw [put_s, put_s]
      refine ⟨oP.1, by omega, mvc_hd, ?_⟩
      intro q hq hqa
      have hqo : q ≠ p := fun e => by rw [e, hageo] at hqa; exact absurd hqa (by decide)
      rw [hage q hqo] at hqa
      show ad p < put ad p re q ∨ put ad p re q + szN τ q ≤ ad p
      rw [put_n hqo]
      have := hD p q hp hq (by rw [h3]; decide) (by rw [hqa]; decide) (Ne.symm hqo)
      omega
    · rw [put_n hpo, put_n hpo]
      rw [hage p hpo] at hpa
      obtain ⟨f1, f2, f3, f4⟩ := hF p hp hpa
      have f5 := f4 o ho h3
      refine ⟨f1, f2, ?_, ?_⟩
      · rw [mvc_old (by omega) (by omega)]; exact f3
      · intro q hq hqa
        have hqo : q ≠ o := fun e => by rw [e, hageo] at hqa; exact absurd hqa (by decide)
        rw [hage q hqo] at hqa
        show fr p < put ad o re q ∨ put ad o re q + szN τ q ≤ fr p
        rw [put_n hqo]
        exact f4 q hq hqa
  · refine ⟨?_, ?_, ?_⟩
    · intro i hi
      show put ro rl o i < 240 ∧ (mvS τ o rl (n - (ns - re)) (szN τ o)).2 6 (put ro rl o i) = 2 ∧ upd (τ.2 11) rl (nI o) i = nI (put ro rl o i) ∧ put ad o re (put ro rl o i) = bs + sumTo (rsz τ (put ro rl o)) i
      by_cases hil : i = rl
      · subst hil
        rw [put_s, put_s, upd_s, hrsz i (Nat.le_refl _)]
        exact ⟨ho, hageo, rfl, hR.2.1⟩
      · rw [put_n hil, upd_n hil, hage _ (hroL i (by omega)), put_n (hroL i (by omega)), hrsz i (by omega)]
        exact hR.1 i (by omega)
    · show re + szN τ o = bs + sumTo (rsz τ (put ro rl o)) (rl + 1)
      rw [hsum, hR.2.1]; omega
    · intro p hp hpa
      by_cases hpo : p = o
      · subst hpo; exact ⟨rl, by omega, put_s⟩
      · rw [hage p hpo] at hpa
        obtain ⟨i, hi, e⟩ := hR.2.2 p hp hpa
        exact ⟨i, by omega, by rw [put_n (by omega)]; exact e⟩
  · obtain ⟨s1, s2, s3, s4, s5, s6, s7⟩ := hS
    refine ⟨by omega, ?_, ?_, s4, s5, ?_, ?_⟩
    · rcases s2 with h | ⟨h, h'⟩
      · exact Or.inl h
      · refine Or.inr ⟨by omega, ?_⟩
        rw [put_n (by omega)]; exact h'
    · show σ1 14 = nI (bs + sumTo (rsz τ (put ro rl o)) so + cc)
      rw [hrsz so s1, e14]; exact s3
    · intro h
      show σ1 15 = nI (bs + sumTo (rsz τ (put ro rl o)) so)
      rw [hrsz so s1, e15]; exact s6 h
    · intro h
      have hlt : so < rl := by rcases s2 with h' | h' <;> omega
      show σ1 15 = nI (bs + sumTo (rsz τ (put ro rl o)) (so + 1)) ∧ σ1 16 = nI (bs + sumTo (rsz τ (put ro rl o)) so + 1 + nrN τ (put ro rl o so))
      rw [hrsz so s1, hrsz (so + 1) (by omega), e15, e16, put_n (by omega)]; exact s7 h
  · intro hrun
    obtain ⟨c0, c1, c2⟩ := hC hrun
    refine ⟨by omega, ?_, ?_⟩
    · intro p hp hpa j hj
      have hpo : p ≠ o := fun e => by rw [e, hageo] at hpa; exact absurd hpa (by decide)
      rw [hage p hpo] at hpa
      have hj' : j < nrN τ p := hj
      show Clean _ _ p j (α 10 (put ad o re p + 1 + j))
      rw [eα, put_n hpo, hkeep p hp hpo (by rw [hpa]; decide) _ (by omega) (by unfold szN; omega)]
      exact hcl p j _ (c1 p hp hpa j hj')
    · intro i hi j hj hd
      have hcc : i < rl := by omega
      rw [put_n (show i ≠ rl by omega)] at hj ⊢
      have hj' : j < nrN τ (ro i) := hj
      have hio := hroL i hcc
      have hi2 := hR.1 i hcc
      show Clean _ _ (ro i) j (α 10 (put ad o re (ro i) + 1 + j))
      rw [eα, put_n hio, hkeep (ro i) hi2.1 hio (by rw [hi2.2.1]; decide) _ (by omega) (by unfold szN; omega)]
      exact hcl (ro i) j _ (c2 i hcc j hj' hd)
end MV
