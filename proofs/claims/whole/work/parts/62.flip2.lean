/-! a flip, both sides -/
def XK (σ σ' : St) : Prop := (∀ j, j < 11 → σ'.1 j = σ.1 j) ∧ ∀ k, k ≠ 10 → σ'.2 k = σ.2 k
def MK (τ τ' : St) : Prop := (∀ j, j ≠ 5 → j ≠ 6 → j ≠ 7 → j ≠ 8 → j ≠ 12 → j ≠ 14 → j ≠ 16 → τ'.1 j = τ.1 j) ∧ ∀ k, k < 6 ∨ 12 ≤ k → τ'.2 k = τ.2 k
theorem XK.rf (σ : St) : XK σ σ := ⟨fun _ _ => rfl, fun _ _ => rfl⟩
theorem MK.rf (τ : St) : MK τ τ := ⟨fun _ _ _ _ _ _ _ _ => rfl, fun _ _ => rfl⟩
theorem XK.tr {a b c : St} (h : XK a b) (g : XK b c) : XK a c := ⟨fun j hj => (g.1 j hj).trans (h.1 j hj), fun k hk => (g.2 k hk).trans (h.2 k hk)⟩
theorem MK.tr {a b c : St} (h : MK a b) (g : MK b c) : MK a c := ⟨fun j h1 h2 h3 h4 h5 h6 h7 => (g.1 j h1 h2 h3 h4 h5 h6 h7).trans (h.1 j h1 h2 h3 h4 h5 h6 h7), fun k hk => (g.2 k hk).trans (h.2 k hk)⟩
theorem EvX2.xk {a b : St} (h : EvX2 a b) : XK a b := ⟨fun j hj => h.1 j (by omega), h.2⟩
theorem EvM2.mk {a b : St} (h : EvM2 a b) : MK a b := ⟨fun j h1 h2 h3 h4 h5 _ h7 => h.1 j h1 h2 h3 h4 h5 h7, fun k hk => h.2.1 k (by omega) (by omega)⟩
/-- the same objects, whatever their ages -/
def sameB (τ τ' : St) : Prop := τ'.2 7 = τ.2 7 ∧ τ'.2 8 = τ.2 8 ∧ τ'.2 9 = τ.2 9 ∧ τ'.2 10 = τ.2 10
/-- the chain of frames -/
def Ch (τ : St) (sk : Nat → Nat) (dl : Nat) : Prop := 1 ≤ dl ∧ (∀ i, i < dl → sk i < 240 ∧ τ.2 6 (sk i) ≠ 0 ∧ τ.2 7 (sk i) = -1) ∧ (∀ i, i + 1 < dl → τ.2 9 (4 * sk i + 3) = nI (sk (i + 1))) ∧ τ.2 9 (4 * sk (dl - 1) + 3) = -1 ∧ ∀ i j, i < dl → j < dl → sk i = sk j → i = j
theorem Ch.same {τ τ' : St} {sk : Nat → Nat} {dl : Nat} (h : Ch τ sk dl) (hs : sameB τ τ') (ha : ∀ i, i < dl → τ'.2 6 (sk i) ≠ 0) : Ch τ' sk dl := by
  obtain ⟨c1, c2, c3, c4, c5⟩ := h
  obtain ⟨s7, s8, s9, s10⟩ := hs
  refine ⟨c1, fun i hi => ⟨(c2 i hi).1, ha i hi, by rw [s7]; exact (c2 i hi).2.2⟩, fun i hi => by rw [s9]; exact c3 i hi, by rw [s9]; exact c4, c5⟩
section FL2
variable {n nk nf : Nat} {run : Prop} {σ τ : St} {ad fr ro : Nat → Nat} {bs re ns rl so cc zs zc o cur : Nat}
theorem frame_nr (hk : τ.2 7 cur = -1) : nrN τ cur = 4 ∧ niN τ cur = 4 ∧ szN τ cur = 9 := by
  unfold szN nrN niN; rw [if_pos hk, if_pos hk]; exact ⟨rfl, rfl, rfl⟩
/-- when the row is done all of the chain is here -/
theorem chain_here (h : RH n nk nf True σ τ ad fr ro bs re ns rl so cc so cc) (hd : so = rl) {sk : Nat → Nat} {dl : Nat} (hC : Ch τ sk dl) (h0 : τ.2 6 (sk 0) = 1 ∨ τ.2 6 (sk 0) = 2) : ∀ i, i < dl → τ.2 6 (sk i) = 1 ∨ τ.2 6 (sk i) = 2 := by
  intro i
  induction i with
  | zero => intro _; exact h0
  | succ i ih =>
    intro hi
    have h1 := ih (by omega)
    obtain ⟨c1, c2, c3, c4, c5⟩ := hC
    have hp := c2 i (by omega)
    rcases clean_all h hd (p := sk i) (j := 3) hp.1 h1 (by rw [(frame_nr hp.2.2).1]; omega) with hc | ⟨t, t1, t2, t3, -⟩
    · rw [c3 i hi] at hc; exact absurd hc.1 (nI_m1 (by have := (c2 (i + 1) hi).1; omega))
    · have := nI_inj (by have := (c2 (i + 1) hi).1; omega) (by omega) ((c3 i hi).symm.trans t2)
      rw [this]; exact t3
theorem flip_sim (h : RH n nk nf True σ τ ad fr ro bs re ns rl so cc so cc) (hd : so = rl) (hw : σ.1 19 = τ.1 16) (hfl : σ.1 18 = τ.1 14) (hc : cur < 240) (hca : τ.2 6 cur = 1 ∨ τ.2 6 cur = 2) (hck : τ.2 7 cur = -1) (h9 : τ.1 9 = nI cur) (h11 : σ.1 11 = nI (ad cur)) :
    ∃ σ' τ' ad' fr' ro', fRoom_flip (2 * n) σ = some σ' ∧ fMod_flip τ = some τ' ∧ RH n nk nf True σ' τ' ad' fr' ro' (n - bs) (n - bs + 9) (n - bs + n) 1 0 0 0 0 ∧ σ'.1 11 = nI (ad' cur) ∧ τ'.2 6 cur = 2 ∧ XK σ σ' ∧ MK τ τ' ∧ sameB τ τ' ∧ σ'.1 19 = τ'.1 16 ∧ σ'.1 18 = τ'.1 14 ∧ σ'.1 20 = σ.1 20 ∧ τ'.1 12 = τ.1 12 ∧ ∀ p, p < 240 → (τ.2 6 p = 1 ∨ τ.2 6 p = 2) → τ'.2 6 p ≠ 0 := by
  have h0 := h
  obtain ⟨⟨hn1, hn2, hf6, hK⟩, hG, hO, hD, hF, hR, hS, hC⟩ := h
  obtain ⟨g1, g2, g3, g4, g5, g6, g7, g8, g9, g10, g11⟩ := hG
  have hcne : τ.2 6 cur ≠ 0 := by rcases hca with h | h <;> rw [h] <;> decide
  obtain ⟨ca, cT, cH, p1, p2, p3, cI, cR⟩ := hO cur hc hcne
  obtain ⟨fn, fi, fs⟩ := frame_nr hck
  have hid := ob_id hK hf6 cT
  -- the states before the current frame is moved
  let σf : St := (upd (upd (upd (upd (upd (upd (upd σ.1 12 (nI (n - bs))) 13 (nI (n - bs))) 14 (nI (n - bs))) 15 (nI (n - bs))) 16 (nI (n - bs))) 17 (nI (n - bs) + σ.1 9)) 18 (σ.1 18 + 1), σ.2)
  let τf : St := (upd (upd (upd (upd (upd τ.1 5 0) 6 0) 7 0) 8 0) 14 (τ.1 14 + 1), va_up τ.2 6 (flA τ 240))
  have hRf : RH n nk nf True σf τf ad fr ro (n - bs) (n - bs) (n - bs + n) 0 0 0 0 0 := RH_flip h0 hd (σ1 := σf.1) (τ1 := τf.1) rfl rfl rfl rfl rfl (by show nI (n - bs) + σ.1 9 = _; rw [g5, nI_add]) rfl rfl rfl rfl rfl
  have hage : ∀ p, p < 240 → (τ.2 6 p = 1 ∨ τ.2 6 p = 2) → τf.2 6 p = 3 := by
    intro p hp ha
    show flA τ 240 p = 3
    unfold flA fla; rw [if_pos hp]
    rcases ha with h | h <;> rw [h] <;> decide
  have hc3 := hage cur hc hca
  have hadc : bs ≤ ad cur ∧ ad cur + 9 ≤ bs + n := by
    rw [fs] at p1 p2
    rcases hca with h | h
    · have := p1 h; omega
    · have := p2 h; omega
  have hRm := RH_move (σ1 := (mvX σf (ad cur) (n - bs) 9).1) (α := (mvX σf (ad cur) (n - bs) 9).2) hRf hc hc3 (by show szN τ cur ≤ _; rw [fs]; omega) rfl (by show nI (n - bs + 9) = nI (n - bs + szN τ cur); rw [fs]) rfl rfl rfl rfl rfl (by show mvc (σ.2 10) (ad cur) (n - bs) 9 = mvc (σ.2 10) (ad cur) (n - bs) (szN τ cur); rw [fs])
  rw [show szN τf cur = 9 from fs] at hRm
  have hX : fRoom_flip (2 * n) σ = some (upd (mvX σf (ad cur) (n - bs) 9).1 11 (nI (n - bs)), (mvX σf (ad cur) (n - bs) 9).2) := by
    have hJ : fRoom_flip_J16 (2 * n) σ (nI (n - bs)) = some (upd (mvX σf (ad cur) (n - bs) 9).1 11 (nI (n - bs)), (mvX σf (ad cur) (n - bs) 9).2) := by
      unfold fRoom_flip_J16 fRoom_useSpace
      rw [Option.bind_some]
      show (fRoom_moveOld (2 * n) σf (σ.1 11)).bind (fun p35 => some (upd p35.2.1 11 p35.1, p35.2.2)) = _
      have hmo := x_moveOld (L := 2 * n) (σ := σf) (a := ad cur) (id := idN τ cur) (r := 4) (i := 4) (re := n - bs) (ns := n - bs + n) (by omega) ⟨hid, by omega, by omega, by show σ.2 10 (ad cur) = _; rw [cH, fn, fi]⟩ rfl (by show nI (n - bs) + σ.1 9 = _; rw [g5, nI_add]) (by omega) (by omega) (by omega) (by omega)
      rw [h11, hmo, Option.bind_some]
      rfl
    unfold fRoom_flip
    rcases g1 with hb | hb
    · rw [if_pos (by rw [g2, hb]; rfl), g5, ← hJ, hb]; rfl
    · rw [if_neg (by rw [g2, hb]; exact nI_ne0 (by omega) (by omega)), ← hJ, hb, Nat.sub_self]; rfl
  have hM : fMod_flip τ = some (mvS τf cur 0 0 9) := by
    unfold fMod_flip
    rw [m_flipLoop, Option.bind_some]
    show (fMod_move τf (τ.1 9)).bind (fun p86 => some p86) = _
    rw [h9, m_move (τ := τf) (nk := nk) (nf := nf) (n := n) (rl := 0) (u := 0) hc hK cT g6 rfl rfl hn2 (by omega) (fun _ => by omega), if_pos (by show 0 + szN τ cur ≤ n; rw [fs]; omega), Option.bind_some, show szN τf cur = 9 from fs]
  refine ⟨_, _, put ad cur (n - bs), put fr cur (ad cur), put ro 0 cur, hX, hM, ?_, ?_, ?_, ?_, ?_, ?_, ?_, ?_, rfl, rfl, ?_⟩
  · have e : n - (n - bs + n - (n - bs)) = 0 := by omega
    rw [e] at hRm
    exact hRm
  · show nI (n - bs) = nI (put ad cur (n - bs) cur); rw [put_s]
  · show upd (τf.2 6) cur 2 cur = 2; exact upd_s
  · refine ⟨fun j hj => ?_, fun k hk => ?_⟩
    · show upd (upd (upd (upd (upd (upd (upd (upd (upd (upd σ.1 12 _) 13 _) 14 _) 15 _) 16 _) 17 _) 18 _) 13 _) 19 _) 11 _ j = _
      rw [upd_n (by omega), upd_n (by omega), upd_n (by omega), upd_n (by omega), upd_n (by omega), upd_n (by omega), upd_n (by omega), upd_n (by omega), upd_n (by omega), upd_n (by omega)]
    · show va_up (va_up σ.2 10 _) 10 _ k = _
      rw [va_up_n hk, va_up_n hk]
  · refine ⟨fun j h1 h2 h3 h4 _ h6 h7 => ?_, fun k hk => ?_⟩
    · show upd (upd (upd (upd (upd (upd (upd (upd τ.1 5 _) 6 _) 7 _) 8 _) 14 _) 6 _) 5 _) 16 _ j = _
      rw [upd_n h7, upd_n h1, upd_n h2, upd_n h6, upd_n h4, upd_n h3, upd_n h2, upd_n h1]
    · show va_up (va_up (va_up τ.2 6 _) 6 _) 11 _ k = _
      rw [va_up_n (by omega), va_up_n (by omega), va_up_n (by omega)]
  · exact ⟨rfl, rfl, rfl, rfl⟩
  · show σ.1 19 + nI 9 = τ.1 16 + nI 9; rw [hw]
  · show σ.1 18 + 1 = τ.1 14 + 1; rw [hfl]
  · intro p hp ha
    show upd (τf.2 6) cur 2 p ≠ 0
    by_cases e : p = cur
    · rw [e, upd_s]; decide
    · rw [upd_n e, hage p hp ha]; decide
end FL2
