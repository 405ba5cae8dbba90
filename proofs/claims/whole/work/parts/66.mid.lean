/-! within a step -/
theorem bnd {α : Type} {x : Option α} : (x.bind fun p => some p) = x := by cases x <;> rfl
def Post (n nk nf op pc : Nat) (σ τ : St) : Prop := Stat n σ τ nk nf op pc ∧ ∃ ad cur sk dl, HP n nk nf (σ.1 20 = 0) σ τ ad cur sk dl ∧ ((σ.1 20 = 1 ∧ τ.1 12 = 3 ∧ σ.1 1 = 0 ∧ σ.1 2 = 0) ∨ (σ.1 20 = 0 ∧ τ.1 12 = 0 ∧ σ.1 1 = 0 ∧ σ.1 2 = 0 ∧ (τ.1 10 = 0 → PlOK τ cur)) ∨ (σ.1 20 = 0 ∧ (τ.1 12 = 1 ∨ τ.1 12 = 2) ∧ σ.1 1 = τ.1 12 ∧ σ.1 2 = τ.1 13))
def Mid (n nk nf op pc : Nat) (σ τ : St) (ad : Nat → Nat) (cur : Nat) (sk : Nat → Nat) (dl : Nat) : Prop := Stat n σ τ nk nf op pc ∧ HP n nk nf True σ τ ad cur sk dl ∧ σ.1 20 = 0 ∧ τ.1 12 = 0 ∧ σ.1 1 = 0 ∧ σ.1 2 = 0
theorem HP.weak {n nk nf : Nat} {run run' : Prop} {σ τ : St} {ad : Nat → Nat} {cur dl : Nat} {sk : Nat → Nat} (h : HP n nk nf run σ τ ad cur sk dl) (hr : run' → run) : HP n nk nf run' σ τ ad cur sk dl := by
  obtain ⟨⟨fr, ro, bs, re, ns, rl, so, cc, b1, b2, b3, b4, b5, b6, b7, b8⟩, h⟩ := h
  exact ⟨⟨fr, ro, bs, re, ns, rl, so, cc, b1, b2, b3, b4, b5, b6, b7, fun z => b8 (hr z)⟩, h⟩
section MD
variable {n nk nf op pc : Nat} {run : Prop} {σ τ : St} {ad : Nat → Nat} {cur dl o j : Nat} {sk : Nat → Nat}
theorem Mid.post (h : Mid n nk nf op pc σ τ ad cur sk dl) (hp : τ.1 10 = 0 → PlOK τ cur) : Post n nk nf op pc σ τ := by
  obtain ⟨h1, h2, h3, h4, h5, h6⟩ := h
  exact ⟨h1, ad, cur, sk, dl, h2.weak (fun _ => trivial), Or.inr (Or.inl ⟨h3, h4, h5, h6, hp⟩)⟩
/-- frames of the step: what read and make keep -/
theorem mid_read (h : Mid n nk nf op pc σ τ ad cur sk dl) (ho : o < 240) (ha : τ.2 6 o = 1 ∨ τ.2 6 o = 2) (hj : j < nrN τ o) :
    ∃ r σ' b τ' ad', fRoom_readRef (2 * n) σ (nI (ad o)) (nI j) = some (r, σ') ∧ fMod_read τ (nI (4 * o + j)) = some (b, τ') ∧ σ'.1 11 = σ.1 11 ∧ τ'.1 9 = τ.1 9 ∧ τ'.1 10 = τ.1 10 ∧ sameB τ τ' ∧ MK τ τ' ∧ (∀ p, (τ.2 6 p = 1 ∨ τ.2 6 p = 2) → τ'.2 6 p = τ.2 6 p ∧ ad' p = ad p) ∧
      ((σ'.1 20 = 1 ∧ τ'.1 12 = 3 ∧ b = 0 ∧ r ≠ -1 ∧ Post n nk nf op pc σ' τ') ∨ (σ'.1 20 = 0 ∧ τ'.1 12 = 0 ∧ b = 1 ∧ Mid n nk nf op pc σ' τ' ad' cur sk dl ∧ CVl τ' ad' o j (τ.2 9 (4 * o + j)) r)) := by
  obtain ⟨h1, h2, h3, h4, h5, h6⟩ := h
  obtain ⟨r, σ', b, τ', ad', hX, hM, xk, mk, sb, e11, hag, hH, hc⟩ := hp_read h2 h3 h4 ho ha hj
  have m9 : τ'.1 9 = τ.1 9 := mk.1 9 (by decide) (by decide) (by decide) (by decide) (by decide) (by decide) (by decide)
  have m10 : τ'.1 10 = τ.1 10 := mk.1 10 (by decide) (by decide) (by decide) (by decide) (by decide) (by decide) (by decide)
  refine ⟨r, σ', b, τ', ad', hX, hM, e11, m9, m10, sb, mk, hag, ?_⟩
  have hS := h1.k xk mk
  have x1 : σ'.1 1 = 0 := (xk.1 1 (by omega)).trans h5
  have x2 : σ'.1 2 = 0 := (xk.1 2 (by omega)).trans h6
  rcases hc with ⟨c1, c2, c3, c4⟩ | ⟨c1, c2, c3, c4⟩
  · exact Or.inl ⟨c1, c2, c3, c4, hS, ad', cur, sk, dl, hH.weak (fun _ => trivial), Or.inl ⟨c1, c2, x1, x2⟩⟩
  · exact Or.inr ⟨c1, c2, c3, ⟨hS, hH, c1, c2, x1, x2⟩, c4⟩
theorem xk_cell (σ : St) (f : Nat → Int32) : XK σ (σ.1, va_up σ.2 10 f) := ⟨fun _ _ => rfl, fun k hk => va_up_n hk⟩
theorem mk_ref (τ : St) (f : Nat → Int32) : MK τ (τ.1, va_up τ.2 9 f) := ⟨fun _ _ _ _ _ _ _ _ => rfl, fun k hk => va_up_n (by omega)⟩
theorem mk_int (τ : St) (f : Nat → Int32) : MK τ (τ.1, va_up τ.2 10 f) := ⟨fun _ _ _ _ _ _ _ _ => rfl, fun k hk => va_up_n (by omega)⟩
theorem mid_setRef (h : Mid n nk nf op pc σ τ ad cur sk dl) (ho : o < 240) (ha : τ.2 6 o = 1 ∨ τ.2 6 o = 2) (hj : j < nrN τ o) (hch : j ≠ 3 ∨ ∀ i, i < dl → sk i ≠ o) {p v : Int32} (hv : CVl τ ad o j p v) :
    fRoom_setRef (2 * n) σ (nI (ad o)) (nI j) v = some (σ.1, va_up σ.2 10 (upd (σ.2 10) (ad o + 1 + j) v)) ∧ Mid n nk nf op pc (σ.1, va_up σ.2 10 (upd (σ.2 10) (ad o + 1 + j) v)) (τ.1, va_up τ.2 9 (upd (τ.2 9) (4 * o + j) p)) ad cur sk dl := by
  obtain ⟨h1, h2, h3, h4, h5, h6⟩ := h
  obtain ⟨a, b⟩ := hp_setRef h2 ho ha hj hch hv
  exact ⟨a, h1.k (xk_cell σ _) (mk_ref τ _), b, h3, h4, h5, h6⟩
theorem mid_setInt (h : Mid n nk nf op pc σ τ ad cur sk dl) (ho : o < 240) (ha : τ.2 6 o = 1 ∨ τ.2 6 o = 2) (hj : j < niN τ o) (hch : j ≠ 3 ∨ ∀ i, 1 ≤ i → i < dl → sk i ≠ o) (v : Int32) :
    fRoom_setInt (2 * n) σ (nI (ad o)) (nI j) v = some (σ.1, va_up σ.2 10 (upd (σ.2 10) (ad o + 1 + nrN τ o + j) v)) ∧ Mid n nk nf op pc (σ.1, va_up σ.2 10 (upd (σ.2 10) (ad o + 1 + nrN τ o + j) v)) (τ.1, va_up τ.2 10 (upd (τ.2 10) (4 * o + j) v)) ad cur sk dl := by
  obtain ⟨h1, h2, h3, h4, h5, h6⟩ := h
  obtain ⟨a, b⟩ := hp_setInt h2 ho ha hj hch v
  exact ⟨a, h1.k (xk_cell σ _) (mk_int τ _), b, h3, h4, h5, h6⟩
theorem mid_cur (h : Mid n nk nf op pc σ τ ad cur sk dl) : cur < 240 ∧ (τ.2 6 cur = 1 ∨ τ.2 6 cur = 2) ∧ τ.1 9 = nI cur ∧ σ.1 11 = nI (ad cur) ∧ τ.2 7 cur = -1 ∧ nrN τ cur = 4 ∧ niN τ cur = 4 ∧ τ.2 6 cur ≠ 0 ∧ sk 0 = cur ∧ 1 ≤ dl := by
  have hk := hp_curk h.2.1
  obtain ⟨-, ⟨-, h1, h2, h3, h4, hC, hs, -⟩, -⟩ := h
  exact ⟨h1, h2, h3, h4, hk.1, hk.2.1, hk.2.2, by rcases h2 with h | h <;> rw [h] <;> decide, hs, hC.1⟩
/-- the current frame's own numbers and refs -/
theorem mid_cint (h : Mid n nk nf op pc σ τ ad cur sk dl) {x : Nat} (hx : x < 4) : fMach_numberIn (2 * n) σ (nI x) = some (τ.2 10 (4 * cur + x), σ) := by
  obtain ⟨c1, c2, c3, c4, c5, c6, c7, c8, c9⟩ := mid_cur h
  unfold fMach_numberIn
  rw [c4, hp_int h.2.1 c1 c8 (by rw [c7]; exact hx), Option.bind_some]
theorem mid_csetI (h : Mid n nk nf op pc σ τ ad cur sk dl) {x : Nat} (hx : x < 4) (v : Int32) : ∃ σ', fMach_setNumber (2 * n) σ (nI x) v = some σ' ∧ fRoom_setInt (2 * n) σ (σ.1 11) (nI x) v = some σ' ∧ σ'.1 = σ.1 ∧ (∀ k, k ≠ 10 → σ'.2 k = σ.2 k) ∧ Mid n nk nf op pc σ' (τ.1, va_up τ.2 10 (upd (τ.2 10) (4 * cur + x) v)) ad cur sk dl := by
  obtain ⟨c1, c2, c3, c4, c5, c6, c7, c8, c9, c10⟩ := mid_cur h
  have hch : x ≠ 3 ∨ ∀ i, 1 ≤ i → i < dl → sk i ≠ cur := Or.inr (fun i h1 h2 e => by
    obtain ⟨-, ⟨-, -, -, -, -, hC, -⟩, -⟩ := h
    have := hC.2.2.2.2 i 0 h2 (by omega) (by rw [e, c9])
    omega)
  obtain ⟨a, b⟩ := mid_setInt h c1 c2 (by rw [c7]; exact hx) hch v
  refine ⟨(σ.1, va_up σ.2 10 (upd (σ.2 10) (ad cur + 1 + nrN τ cur + x) v)), ?_, ?_, rfl, fun k hk => va_up_n hk, b⟩
  · unfold fMach_setNumber; rw [c4, a, Option.bind_some]
  · rw [c4]; exact a
theorem mid_csetR (h : Mid n nk nf op pc σ τ ad cur sk dl) {x : Nat} (hx : x < 3) {p v : Int32} (hv : CVl τ ad cur x p v) : ∃ σ', fRoom_setRef (2 * n) σ (σ.1 11) (nI x) v = some σ' ∧ Mid n nk nf op pc σ' (τ.1, va_up τ.2 9 (upd (τ.2 9) (4 * cur + x) p)) ad cur sk dl := by
  obtain ⟨c1, c2, c3, c4, c5, c6, c7, c8, c9, c10⟩ := mid_cur h
  obtain ⟨a, b⟩ := mid_setRef h c1 c2 (by rw [c6]; omega) (Or.inl (by omega)) hv
  exact ⟨_, by rw [c4]; exact a, b⟩
/-- an exception arises -/
theorem mid_raise (h : Mid n nk nf op pc σ τ ad cur sk dl) (v : Int32) : fMach_raise (2 * n) σ v = some (upd (upd σ.1 3 1) 4 v, σ.2) ∧ fMod_raise τ v = some (upd (upd τ.1 10 1) 11 v, τ.2) ∧ Post n nk nf op pc (upd (upd σ.1 3 1) 4 v, σ.2) (upd (upd τ.1 10 1) 11 v, τ.2) := by
  obtain ⟨⟨s1, s2, s3, s4, s5, s6, s7, s8, s9⟩, h2, h3, h4, h5, h6⟩ := h
  refine ⟨rfl, rfl, ⟨s1, s2, s3, s4, s5, rfl, s7, ⟨rfl, Or.inr rfl⟩, s9⟩, ad, cur, sk, dl, ?_, Or.inr (Or.inl ⟨h3, h4, h5, h6, fun z => absurd (show (1 : Int32) = 0 from z) (by decide)⟩)⟩
  exact HP.weak (run := True) h2 (fun _ => trivial)
end MD
