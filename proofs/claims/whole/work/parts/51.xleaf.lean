/-! the class's heads and cells, in small numbers -/
abbrev hdN (id r i : Nat) : Nat := id * 64 + r * 8 + i
theorem hd_mk : ∀ id, id < 10 → ∀ r, r < 5 → ∀ i, i < 5 → ((((nI id <<< ((3 : Int32) &&& 31)) ||| nI r) <<< ((3 : Int32) &&& 31)) ||| nI i) = nI (hdN id r i) := by decide +kernel
theorem hd_refs : ∀ id, id < 10 → ∀ r, r < 5 → ∀ i, i < 5 → ((nI (hdN id r i) >>> ((3 : Int32) &&& 31)) &&& 7) = nI r := by decide +kernel
theorem hd_ints : ∀ id, id < 10 → ∀ r, r < 5 → ∀ i, i < 5 → (nI (hdN id r i) &&& 7) = nI i := by decide +kernel
theorem hd_id : ∀ id, id < 10 → ∀ r, r < 5 → ∀ i, i < 5 → (nI (hdN id r i) >>> ((6 : Int32) &&& 31)) = nI id := by decide +kernel
theorem hd_size : ∀ id, id < 10 → ∀ r, r < 5 → ∀ i, i < 5 → (((1 : Int32) + ((nI (hdN id r i) >>> ((3 : Int32) &&& 31)) &&& 7)) + (nI (hdN id r i) &&& 7)) = nI (1 + r + i) := by decide +kernel
/-- a head of an object -/
def isHd (c : Int32) (id r i : Nat) : Prop := id < 10 ∧ r < 5 ∧ i < 5 ∧ c = nI (hdN id r i)
section XL
variable {L : Nat} {σ : St} {a id r i : Nat}
theorem x_headOf (h0 : id < 10) (h1 : r < 5) (h2 : i < 5) : fRoom_headOf L σ (nI id) (nI r) (nI i) = some (nI (hdN id r i), σ) := by
  unfold fRoom_headOf; rw [hd_mk id h0 r h1 i h2]
theorem x_headOfFrame {m : Nat} (h : m < 6) : fRoom_headOfFrame L σ (nI m) = some (nI (hdN (4 + m) 4 4), σ) := by
  unfold fRoom_headOfFrame
  have e : (4 : Int32) + nI m = nI (4 + m) := nI_add 4 m
  rw [e, show (4 : Int32) = nI 4 from rfl, x_headOf (by omega) (by omega) (by omega)]
  rfl
theorem x_refsIn {c : Int32} (h : isHd c id r i) : fRoom_refsIn L σ c = some (nI r, σ) := by
  obtain ⟨h0, h1, h2, rfl⟩ := h
  unfold fRoom_refsIn; rw [hd_refs id h0 r h1 i h2]
theorem x_sizeIn {c : Int32} (h : isHd c id r i) : fRoom_sizeIn L σ c = some (nI (1 + r + i), σ) := by
  obtain ⟨h0, h1, h2, rfl⟩ := h
  unfold fRoom_sizeIn; rw [hd_size id h0 r h1 i h2]
theorem x_idOf (hL : L < 1000) (ha : a < L) (h : isHd (σ.2 10 a) id r i) : fRoom_idOf L σ (nI a) = some (nI id, σ) := by
  unfold fRoom_idOf
  rw [gd (ix_n ha (by omega)), nI_tc (by omega)]
  obtain ⟨h0, h1, h2, h3⟩ := h
  rw [h3, hd_id id h0 r h1 i h2]
theorem x_refsOf (hL : L < 1000) (ha : a < L) (h : isHd (σ.2 10 a) id r i) : fRoom_refsOf L σ (nI a) = some (nI r, σ) := by
  unfold fRoom_refsOf
  rw [gd (ix_n ha (by omega)), nI_tc (by omega), x_refsIn h]
  rfl
theorem x_intsOf (hL : L < 1000) (ha : a < L) (h : isHd (σ.2 10 a) id r i) : fRoom_intsOf L σ (nI a) = some (nI i, σ) := by
  unfold fRoom_intsOf
  rw [gd (ix_n ha (by omega)), nI_tc (by omega)]
  obtain ⟨h0, h1, h2, h3⟩ := h
  rw [h3, hd_ints id h0 r h1 i h2]
theorem x_intOf {j : Nat} (hL : L < 1000) (h : isHd (σ.2 10 a) id r i) (hj : a + 1 + r + j < L) : fRoom_intOf L σ (nI a) (nI j) = some (σ.2 10 (a + 1 + r + j), σ) := by
  unfold fRoom_intOf
  rw [x_refsOf hL (by omega) h]
  show (if ix (((nI a + 1) + nI r) + nI j) L then some ((σ.2 10) (((nI a + 1) + nI r) + nI j).toNatClampNeg, σ) else none) = _
  rw [nI_1, nI_add, nI_add, gd (ix_n hj (by omega)), nI_tc (by omega)]
theorem x_setInt {j : Nat} {v : Int32} (hL : L < 1000) (h : isHd (σ.2 10 a) id r i) (hj : a + 1 + r + j < L) : fRoom_setInt L σ (nI a) (nI j) v = some (σ.1, va_up σ.2 10 (upd (σ.2 10) (a + 1 + r + j) v)) := by
  unfold fRoom_setInt
  rw [x_refsOf hL (by omega) h]
  show (if ix (((nI a + 1) + nI r) + nI j) L then some (σ.1, va_up σ.2 10 (upd (σ.2 10) (((nI a + 1) + nI r) + nI j).toNatClampNeg v)) else none) = _
  rw [nI_1, nI_add, nI_add, gd (ix_n hj (by omega)), nI_tc (by omega)]
theorem x_setRef {j : Nat} {v : Int32} (hL : L < 1000) (hj : a + 1 + j < L) : fRoom_setRef L σ (nI a) (nI j) v = some (σ.1, va_up σ.2 10 (upd (σ.2 10) (a + 1 + j) v)) := by
  unfold fRoom_setRef
  rw [nI_1, nI_add, gd (ix_n hj (by omega)), nI_tc (by omega)]
theorem x_free {re ns : Nat} (h1 : σ.1 13 = nI re) (h2 : σ.1 17 = nI ns) (h : re ≤ ns) : fRoom_freeCells L σ = some (nI (ns - re), σ) := by
  unfold fRoom_freeCells; rw [h1, h2, pk_sub h]
theorem x_movedTo {b : Nat} (hL : L < 1000) (ha : a < L) (hb : b < 1000) (h : σ.2 10 a = (-1 : Int32) - nI b) : fRoom_movedTo L σ (nI a) = some (nI b, σ) := by
  unfold fRoom_movedTo
  rw [gd (ix_n ha (by omega)), nI_tc (by omega), h, fw_back (by omega)]
/-- an old object is moved: the cells behind the row are its copy, its head says where to -/
theorem x_move0 (h : isHd (σ.2 10 a) id r i) {re ns : Nat} (h1 : σ.1 13 = nI re) (h2 : σ.1 17 = nI ns) (hre : re ≤ ns) (hL : L < 1000) (haL : a < L) : fRoom_moveOld L σ (nI a) = if nI (1 + r + i) ≤ nI (ns - re) then (if cpyOk (nI a) (σ.1 13) (nI (1 + r + i)) L then (some (σ.1 13, (upd (upd σ.1 13 ((σ.1 13) + nI (1 + r + i))) 19 ((σ.1 19) + nI (1 + r + i)), va_up (va_up σ.2 10 (va_cpy (σ.2 10) (σ.2 10) (nI a).toNatClampNeg (σ.1 13).toNatClampNeg (nI (1 + r + i)).toNatClampNeg)) 10 (upd (va_cpy (σ.2 10) (σ.2 10) (nI a).toNatClampNeg (σ.1 13).toNatClampNeg (nI (1 + r + i)).toNatClampNeg) (nI a).toNatClampNeg ((-1 : Int32) - (σ.1 13)))))) else none) else some (nI a, (upd σ.1 20 1, σ.2)) := by
  have h' : isHd (σ.2 10 (nI a).toNatClampNeg) id r i := by rw [nI_tc (by omega)]; exact h
  have hg : ix (nI a) L := ix_n haL (by omega)
  generalize hn : (nI a) = A at h' hg ⊢
  unfold fRoom_moveOld
  rw [gd hg, x_sizeIn h']
  rw [Option.bind_some]
  show ((fRoom_freeCells L σ).bind fun p12 => if nI (1 + r + i) ≤ p12.1 then (if cpyOk A (p12.2.1 13) (nI (1 + r + i)) L then (if ix A L then (some (p12.2.1 13, (upd (upd p12.2.1 13 ((p12.2.1 13) + nI (1 + r + i))) 19 ((p12.2.1 19) + nI (1 + r + i)), va_up (va_up p12.2.2 10 (va_cpy (p12.2.2 10) (p12.2.2 10) A.toNatClampNeg (p12.2.1 13).toNatClampNeg (nI (1 + r + i)).toNatClampNeg)) 10 (upd (va_cpy (p12.2.2 10) (p12.2.2 10) A.toNatClampNeg (p12.2.1 13).toNatClampNeg (nI (1 + r + i)).toNatClampNeg) A.toNatClampNeg ((-1) - (p12.2.1 13)))))) else none) else none) else (some (A, (upd p12.2.1 20 1, p12.2.2)))) = _
  rw [x_free h1 h2 hre, Option.bind_some]
  show (if nI (1 + r + i) ≤ nI (ns - re) then (if cpyOk A (σ.1 13) (nI (1 + r + i)) L then (if ix A L then _ else none) else none) else _) = _
  rw [gd hg]
theorem x_moveOld {re ns : Nat} (hL : L < 1000) (h : isHd (σ.2 10 a) id r i) (h1 : σ.1 13 = nI re) (h2 : σ.1 17 = nI ns) (hre : re ≤ ns) (ha : a + (1 + r + i) ≤ L) (hn : ns ≤ L) (hfit : 1 + r + i ≤ ns - re) :
    fRoom_moveOld L σ (nI a) = some (nI re, (upd (upd σ.1 13 (nI (re + (1 + r + i)))) 19 (σ.1 19 + nI (1 + r + i)), va_up (va_up σ.2 10 (va_cpy (σ.2 10) (σ.2 10) a re (1 + r + i))) 10 (upd (va_cpy (σ.2 10) (σ.2 10) a re (1 + r + i)) a ((-1 : Int32) - nI re)))) := by
  have hb := h.2
  have hg : cpyOk (nI a) (σ.1 13) (nI (1 + r + i)) L := by
    rw [h1]
    exact ⟨nI_nlt0 (by omega), nI_nlt0 (by omega), nI_nlt0 (by omega), by rw [nI_tc (by omega), nI_tc (by omega)]; omega, by rw [nI_tc (by omega), nI_tc (by omega)]; omega⟩
  rw [x_move0 h h1 h2 hre hL (by omega), if_pos ((nI_leI (by omega) (by omega)).mpr hfit), gd hg, h1, nI_tc (by omega), nI_tc (by omega), nI_tc (by omega), nI_add]
theorem x_moveFull {re ns : Nat} (hL : L < 1000) (h : isHd (σ.2 10 a) id r i) (h1 : σ.1 13 = nI re) (h2 : σ.1 17 = nI ns) (hre : re ≤ ns) (ha : a < L) (hn : ns ≤ L) (hfit : ¬ 1 + r + i ≤ ns - re) :
    fRoom_moveOld L σ (nI a) = some (nI a, (upd σ.1 20 1, σ.2)) := by
  have hb := h.2
  rw [x_move0 h h1 h2 hre hL (by omega), if_neg (fun z => hfit ((nI_leI (by omega) (by omega)).mp z))]
/-- what is here, or nothing, stays -/
theorem x_bringNone {n bs : Nat} : fRoom_bring L σ (-1) = some (-1, σ) := by
  unfold fRoom_bring fRoom_bring_J25 fRoom_bring_J26
  simp
theorem x_bringHere {n bs : Nat} (h1 : σ.1 12 = nI bs) (h2 : σ.1 9 = nI n) (ha : bs ≤ a) (hb : a < bs + n) (hn : bs + n < 1000) : fRoom_bring L σ (nI a) = some (nI a, σ) := by
  unfold fRoom_bring
  rw [h1, h2, nI_add, if_neg (fun z => by rw [nI_lt' (by omega) (by omega)] at z; omega), if_neg (fun z => by rw [nI_le' (by omega) (by omega)] at z; omega)]
  unfold fRoom_bring_J26
  rw [if_neg (nI_m1 (by omega)), if_neg (by decide)]
theorem x_bringOut {n bs : Nat} (h1 : σ.1 12 = nI bs) (h2 : σ.1 9 = nI n) (ha : a < bs ∨ bs + n ≤ a) (hn : bs + n < 1000) (hL : L < 1000) (haL : a < L) : fRoom_bring L σ (nI a) = if (0 : Int32) ≤ σ.2 10 a then fRoom_moveOld L σ (nI a) else fRoom_movedTo L σ (nI a) := by
  have e : fRoom_bring_J26 L σ (nI a) 0 = if (0 : Int32) ≤ σ.2 10 a then fRoom_moveOld L σ (nI a) else fRoom_movedTo L σ (nI a) := by
    unfold fRoom_bring_J26
    rw [if_neg (nI_m1 (by omega)), if_pos rfl, gd (ix_n haL (by omega)), nI_tc (by omega)]
    split
    · cases fRoom_moveOld L σ (nI a) <;> rfl
    · cases fRoom_movedTo L σ (nI a) <;> rfl
  unfold fRoom_bring fRoom_bring_J25
  rw [h1, h2, nI_add, e]
  rcases ha with h | h
  · rw [if_pos (by rw [nI_lt' (by omega) (by omega)]; exact h)]
  · rw [if_neg (fun z => by rw [nI_lt' (by omega) (by omega)] at z; omega), if_pos (by rw [nI_le' (by omega) (by omega)]; exact h)]
end XL
