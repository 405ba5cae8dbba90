/-! the reference's objects, in small numbers -/
def krN (τ : St) (k : Nat) : Nat := (τ.2 0 k).toNatClampNeg
def kiN (τ : St) (k : Nat) : Nat := (τ.2 1 k).toNatClampNeg
def nrN (τ : St) (o : Nat) : Nat := if τ.2 7 o = -1 then 4 else krN τ (τ.2 7 o).toNatClampNeg
def niN (τ : St) (o : Nat) : Nat := if τ.2 7 o = -1 then 4 else kiN τ (τ.2 7 o).toNatClampNeg
def szN (τ : St) (o : Nat) : Nat := 1 + nrN τ o + niN τ o
def idN (τ : St) (o : Nat) : Nat := if τ.2 7 o = -1 then 4 + (τ.2 8 o).toNatClampNeg else (τ.2 7 o).toNatClampNeg
def ObT (τ : St) (nk nf o : Nat) : Prop := (τ.2 7 o = -1 ∧ ∃ m, m < nf ∧ τ.2 8 o = nI m) ∨ ∃ k, k < nk ∧ τ.2 7 o = nI k
def KdT (τ : St) (nk : Nat) : Prop := nk ≤ 4 ∧ ∀ k, k < nk → (∃ r, r ≤ 3 ∧ τ.2 0 k = nI r) ∧ ∃ i, i ≤ 3 ∧ τ.2 1 k = nI i
section ML
variable {τ : St} {nk nf o : Nat}
theorem kr_le (hK : KdT τ nk) {k : Nat} (hk : k < nk) : krN τ k ≤ 3 ∧ τ.2 0 k = nI (krN τ k) := by
  obtain ⟨r, h1, h2⟩ := (hK.2 k hk).1
  have e : krN τ k = r := by unfold krN; rw [h2]; exact nI_tc (by omega)
  rw [e]; exact ⟨h1, h2⟩
theorem ki_le (hK : KdT τ nk) {k : Nat} (hk : k < nk) : kiN τ k ≤ 3 ∧ τ.2 1 k = nI (kiN τ k) := by
  obtain ⟨r, h1, h2⟩ := (hK.2 k hk).2
  have e : kiN τ k = r := by unfold kiN; rw [h2]; exact nI_tc (by omega)
  rw [e]; exact ⟨h1, h2⟩
theorem ob_nr (hK : KdT τ nk) (hO : ObT τ nk nf o) : nrN τ o < 5 ∧ niN τ o < 5 := by
  rcases hO with ⟨h, -⟩ | ⟨k, hk, h⟩
  · unfold nrN niN; rw [if_pos h, if_pos h]; omega
  · unfold nrN niN
    have hk4 := hK.1
    rw [if_neg (by rw [h]; exact nI_m1 (by omega)), if_neg (by rw [h]; exact nI_m1 (by omega)), h, nI_tc (by omega)]
    have a := (kr_le hK hk).1
    have b := (ki_le hK hk).1
    omega
theorem ob_id (hK : KdT τ nk) (hf : nf ≤ 6) (hO : ObT τ nk nf o) : idN τ o < 10 := by
  rcases hO with ⟨h, m, hm, h2⟩ | ⟨k, hk, h⟩
  · unfold idN; rw [if_pos h, h2, nI_tc (by omega)]; omega
  · unfold idN
    have hk4 := hK.1
    rw [if_neg (by rw [h]; exact nI_m1 (by omega)), h, nI_tc (by omega)]; omega
theorem sz_le (hK : KdT τ nk) (hO : ObT τ nk nf o) : 1 ≤ szN τ o ∧ szN τ o ≤ 9 := by
  have := ob_nr hK hO
  unfold szN; omega
theorem m_many0 {x : Int32} (hg : ix x 240) (ht : x.toNatClampNeg = o) (hK : KdT τ nk) (hO : ObT τ nk nf o) : fMod_manyRefs τ x = some (nI (nrN τ o), τ) := by
  subst ht
  unfold fMod_manyRefs nrN
  rw [gd hg]
  rcases hO with ⟨h, -⟩ | ⟨k, hk, h⟩
  · rw [if_pos h, if_pos h]; rfl
  · have hk4 := hK.1
    have hne : ¬ τ.2 7 x.toNatClampNeg = -1 := by rw [h]; exact nI_m1 (by omega)
    have hi : ix (τ.2 7 x.toNatClampNeg) 4 := by rw [h]; exact ix_n (by omega) (by omega)
    rw [if_neg hne, if_neg hne, gd hg, gd hi, h, nI_tc (by omega), ← (kr_le hK hk).2]
theorem m_size0 {x : Int32} (hg : ix x 240) (ht : x.toNatClampNeg = o) (hK : KdT τ nk) (hO : ObT τ nk nf o) : fMod_size τ x = some (nI (szN τ o), τ) := by
  subst ht
  unfold fMod_size szN nrN niN
  rw [gd hg]
  rcases hO with ⟨h, -⟩ | ⟨k, hk, h⟩
  · rw [if_pos h, if_pos h, if_pos h]; rfl
  · have hk4 := hK.1
    have hne : ¬ τ.2 7 x.toNatClampNeg = -1 := by rw [h]; exact nI_m1 (by omega)
    have hi : ix (τ.2 7 x.toNatClampNeg) 4 := by rw [h]; exact ix_n (by omega) (by omega)
    rw [if_neg hne, if_neg hne, if_neg hne, gd hg, gd hi, gd hg, gd hi, h, nI_tc (by omega), (kr_le hK hk).2, (ki_le hK hk).2]
    rw [show (1 : Int32) = nI 1 from rfl, nI_add, nI_add]
theorem m_many (ho : o < 240) (hK : KdT τ nk) (hO : ObT τ nk nf o) : fMod_manyRefs τ (nI o) = some (nI (nrN τ o), τ) := m_many0 (ix_n ho (by omega)) (nI_tc (by omega)) hK hO
theorem m_size (ho : o < 240) (hK : KdT τ nk) (hO : ObT τ nk nf o) : fMod_size τ (nI o) = some (nI (szN τ o), τ) := m_size0 (ix_n ho (by omega)) (nI_tc (by omega)) hK hO
/-- the state behind a move -/
def mvS (τ : St) (o rl u s : Nat) : St := (upd (upd (upd τ.1 6 (nI (rl + 1))) 5 (nI (u + s))) 16 (τ.1 16 + nI s), va_up (va_up τ.2 6 (upd (τ.2 6) o 2)) 11 (upd (τ.2 11) rl (nI o)))
theorem m_move0 {x : Int32} {n rl u : Nat} (hg : ix x 240) (ht : x.toNatClampNeg = o) (hK : KdT τ nk) (hO : ObT τ nk nf o) (h0 : τ.1 0 = nI n) (h5 : τ.1 5 = nI u) (h6 : τ.1 6 = nI rl) (hn : n ≤ 120) (hu : u ≤ n) (hrl : u + szN τ o ≤ n → rl < 120) (hx : x = nI o) :
    fMod_move τ x = if u + szN τ o ≤ n then some (mvS τ o rl u (szN τ o)) else some (upd τ.1 12 3, τ.2) := by
  have hs := sz_le hK hO
  subst ht
  unfold fMod_move
  rw [m_size0 hg rfl hK hO, Option.bind_some]
  show (if τ.1 5 + nI (szN τ x.toNatClampNeg) ≤ τ.1 0 then (if ix x 240 then (if ix (τ.1 6) 120 then _ else none) else none) else _) = _
  have hc : (τ.1 5 + nI (szN τ x.toNatClampNeg) ≤ τ.1 0) = (u + szN τ x.toNatClampNeg ≤ n) := by
    rw [h5, h0, nI_add]; exact nI_le' (by omega) (by omega)
  by_cases h : u + szN τ x.toNatClampNeg ≤ n
  · rw [if_pos (hc ▸ h : τ.1 5 + nI (szN τ x.toNatClampNeg) ≤ τ.1 0), if_pos h, gd hg, gd (show ix (τ.1 6) 120 by rw [h6]; exact ix_n (hrl h) (by omega))]
    have e6 : (τ.1 6).toNatClampNeg = rl := by rw [h6]; exact nI_tc (by have := hrl h; omega)
    rw [e6]
    rw [m_size0 (τ := (upd τ.1 6 (τ.1 6 + 1), va_up (va_up τ.2 6 (upd (τ.2 6) x.toNatClampNeg 2)) 11 (upd (τ.2 11) rl x))) (nk := nk) (nf := nf) hg rfl hK hO, Option.bind_some]
    show (fMod_size (upd (upd τ.1 6 (τ.1 6 + 1)) 5 (τ.1 5 + nI (szN τ x.toNatClampNeg)), va_up (va_up τ.2 6 (upd (τ.2 6) x.toNatClampNeg 2)) 11 (upd (τ.2 11) rl x)) x).bind _ = _
    rw [m_size0 (τ := (upd (upd τ.1 6 (τ.1 6 + 1)) 5 (τ.1 5 + nI (szN τ x.toNatClampNeg)), va_up (va_up τ.2 6 (upd (τ.2 6) x.toNatClampNeg 2)) 11 (upd (τ.2 11) rl x))) (nk := nk) (nf := nf) hg rfl hK hO, Option.bind_some]
    show some (upd (upd (upd τ.1 6 (τ.1 6 + 1)) 5 (τ.1 5 + nI (szN τ x.toNatClampNeg))) 16 (τ.1 16 + nI (szN τ x.toNatClampNeg)), va_up (va_up τ.2 6 (upd (τ.2 6) x.toNatClampNeg 2)) 11 (upd (τ.2 11) rl x)) = _
    unfold mvS
    rw [h6, h5, nI_1, nI_add, ← hx]
  · rw [if_neg (fun z => h (hc ▸ z)), if_neg h]
theorem m_move {n rl u : Nat} (ho : o < 240) (hK : KdT τ nk) (hO : ObT τ nk nf o) (h0 : τ.1 0 = nI n) (h5 : τ.1 5 = nI u) (h6 : τ.1 6 = nI rl) (hn : n ≤ 120) (hu : u ≤ n) (hrl : u + szN τ o ≤ n → rl < 120) :
    fMod_move τ (nI o) = if u + szN τ o ≤ n then some (mvS τ o rl u (szN τ o)) else some (upd τ.1 12 3, τ.2) := m_move0 (ix_n ho (by omega)) (nI_tc (by omega)) hK hO h0 h5 h6 hn hu hrl rfl
end ML
