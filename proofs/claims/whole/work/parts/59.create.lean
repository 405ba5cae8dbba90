/-! a new object -/
theorem up2 {α : Type} {f : Nat → α} {a b : Nat} {x y x' y' : α} (h : a ≠ b) : va_up (va_up (va_up (va_up f a x) b y) a x') b y' = va_up (va_up f a x') b y' := by
  funext k
  by_cases hb : k = b
  · subst hb; rw [va_up_self, va_up_self]
  · rw [va_up_n hb, va_up_n hb]
    by_cases ha : k = a
    · subst ha; rw [va_up_self, va_up_self]
    · rw [va_up_n ha, va_up_n ha, va_up_n hb, va_up_n ha]
def fill (f : Nat → Int32) (o i : Nat) (v : Int32) : Nat → Int32 := fun p => if 4 * o ≤ p ∧ p < 4 * o + i then v else f p
theorem fill_0 {f : Nat → Int32} {o : Nat} {v : Int32} : fill f o 0 v = f := by
  funext p; unfold fill; rw [if_neg (by omega)]
theorem fill_s {f : Nat → Int32} {o i : Nat} {v : Int32} : upd (fill f o i v) (4 * o + i) v = fill f o (i + 1) v := by
  funext p
  by_cases h : p = 4 * o + i
  · subst h; rw [upd_s]; unfold fill; rw [if_pos (by omega)]
  · rw [upd_n h]; unfold fill
    by_cases h2 : 4 * o ≤ p ∧ p < 4 * o + i
    · rw [if_pos h2, if_pos (by omega)]
    · rw [if_neg h2, if_neg (by omega)]
/-- the reference's state behind a making -/
def crA (τ : St) (o : Nat) (kv mv : Int32) : Nat → Nat → Int32 := va_up (va_up (va_up (va_up (va_up τ.2 6 (upd (τ.2 6) o 1)) 7 (upd (τ.2 7) o kv)) 8 (upd (τ.2 8) o mv)) 9 (fill (τ.2 9) o 4 (-1))) 10 (fill (τ.2 10) o 4 0)
section CR
variable {τ : St} {nk nf o : Nat}
theorem m_createB48 {x3 : Int32} (hx : x3 = nI o) (ho : o < 240) (α : Nat → Int32) (β : Nat → Nat → Int32) : rbLoop (fMod_create_B48 x3) rbF (0, (α, β)) = some (0, (nI 4, (α, va_up (va_up β 9 (fill (β 9) o 4 (-1))) 10 (fill (β 10) o 4 0)))) := by
  have hcnt := rbLoop_count (f := fMod_create_B48 x3) (fun i => (nI i, (α, va_up (va_up β 9 (fill (β 9) o i (-1))) 10 (fill (β 10) o i 0)))) 4 ?_ 0 (nI 4, (α, va_up (va_up β 9 (fill (β 9) o 4 (-1))) 10 (fill (β 10) o 4 0))) (by decide) ?_ rbF 0 (by omega) (by rw [rbF_val]; omega)
  · have e0 : va_up (va_up β 9 (fill (β 9) o 0 (-1))) 10 (fill (β 10) o 0 0) = β := by
      rw [fill_0, fill_0]
      funext k
      by_cases h : k = 10
      · subst h; rw [va_up_self]
      · rw [va_up_n h]
        by_cases h9 : k = 9
        · subst h9; rw [va_up_self]
        · rw [va_up_n h9]
    rw [e0] at hcnt
    exact hcnt
  · intro i hi
    have hidx : (4 : Int32) * x3 + nI i = nI (4 * o + i) := by rw [hx, show (4 : Int32) = nI 4 from rfl, pk_mul, nI_add]
    have hg : ix ((4 : Int32) * x3 + nI i) 960 := by rw [hidx]; exact ix_n (by omega) (by omega)
    have hc : ((4 : Int32) * x3 + nI i).toNatClampNeg = 4 * o + i := by rw [hidx]; exact nI_tc (by omega)
    unfold fMod_create_B48
    show (if (4 : Int32) ≤ nI i then _ else if ix ((4 : Int32) * x3 + nI i) 960 then (if ix ((4 : Int32) * x3 + nI i) 960 then some (1, (nI i + 1, (α, va_up (va_up (va_up (va_up β 9 (fill (β 9) o i (-1))) 10 (fill (β 10) o i 0)) 9 (upd (fill (β 9) o i (-1)) ((4 : Int32) * x3 + nI i).toNatClampNeg (-1))) 10 (upd (va_up (va_up β 9 (fill (β 9) o i (-1))) 10 (fill (β 10) o i 0) 10) ((4 : Int32) * x3 + nI i).toNatClampNeg 0)))) else none) else none) = _
    rw [if_neg (show ¬ (4 : Int32) ≤ nI i by rw [show (4 : Int32) = nI 4 from rfl, nI_le' (by omega) (by omega)]; omega), gd hg, gd hg, hc, nI_1, up2 (by decide), fill_s, va_up_self, fill_s]
  · unfold fMod_create_B48
    show (if (4 : Int32) ≤ nI 4 then _ else _) = _
    rw [if_pos (by decide)]
theorem m_createB2 {x1 x2 : Int32} (hfree : ∃ o, o < 240 ∧ τ.2 6 o = 0) : ∃ o, o < 240 ∧ τ.2 6 o = 0 ∧ rbLoop (fMod_create_B2 x1 x2) rbF (0, τ) = some (0, (nI o, τ)) := by
  obtain ⟨o, ⟨h1, h2⟩, h3⟩ := pk_least (fun o => o < 240 ∧ τ.2 6 o = 0) hfree
  refine ⟨o, h1, h2, ?_⟩
  refine rbLoop_count (f := fMod_create_B2 x1 x2) (fun i => (nI i, τ)) o ?_ 0 (nI o, τ) (by decide) ?_ rbF 0 (by omega) (by rw [rbF_val]; omega)
  · intro i hi
    have hne : ¬ τ.2 6 i = 0 := fun e => h3 i hi ⟨by omega, e⟩
    have hg : ix (nI i) 240 := ix_n (by omega) (by omega)
    have hc : (nI i).toNatClampNeg = i := nI_tc (by omega)
    have hlt : ¬ (239 : Int32) ≤ nI i := by rw [show (239 : Int32) = nI 239 from rfl, nI_le' (by omega) (by omega)]; omega
    have e1 : nI i + 1 = nI (i + 1) := nI_1 i
    show fMod_create_B2 x1 x2 (nI i, τ) = some (1, (nI (i + 1), τ))
    rw [← e1]
    generalize nI i = I at hg hc hlt ⊢
    subst hc
    unfold fMod_create_B2
    show (if (239 : Int32) ≤ I then _ else if ix I 240 then (if τ.2 6 I.toNatClampNeg = 0 then _ else _) else none) = _
    rw [if_neg hlt, gd hg, if_neg hne]
  · have hg : ix (nI o) 240 := ix_n (by omega) (by omega)
    have hc : (nI o).toNatClampNeg = o := nI_tc (by omega)
    show fMod_create_B2 x1 x2 (nI o, τ) = some (0, (nI o, τ))
    generalize nI o = I at hg hc ⊢
    subst hc
    unfold fMod_create_B2
    show (if (239 : Int32) ≤ I then _ else if ix I 240 then (if τ.2 6 I.toNatClampNeg = 0 then _ else _) else none) = _
    by_cases hlt : (239 : Int32) ≤ I
    · rw [if_pos hlt]
    · rw [if_neg hlt, gd hg, if_pos h2]
theorem m_create {kv mv : Int32} (hfree : ∃ o, o < 240 ∧ τ.2 6 o = 0) (hK : KdT τ nk) (hk : (kv = -1 ∧ ∃ m, m < nf ∧ mv = nI m) ∨ ∃ k, k < nk ∧ kv = nI k) :
    ∃ o, o < 240 ∧ τ.2 6 o = 0 ∧ ObT (τ.1, crA τ o kv mv) nk nf o ∧ fMod_create τ kv mv = some (nI o, (upd τ.1 5 (τ.1 5 + nI (szN (τ.1, crA τ o kv mv) o)), crA τ o kv mv)) := by
  obtain ⟨o, h1, h2, h3⟩ := m_createB2 (x1 := kv) (x2 := mv) hfree
  have hT : ObT (τ.1, crA τ o kv mv) nk nf o := by
    rcases hk with ⟨a, m, b, c⟩ | ⟨k, b, c⟩
    · refine Or.inl ⟨?_, m, b, ?_⟩
      · show upd (τ.2 7) o kv o = _; rw [upd_s]; exact a
      · show upd (τ.2 8) o mv o = _; rw [upd_s]; exact c
    · refine Or.inr ⟨k, b, ?_⟩
      show upd (τ.2 7) o kv o = _; rw [upd_s]; exact c
  refine ⟨o, h1, h2, hT, ?_⟩
  have hg : ix (nI o) 240 := ix_n (by omega) (by omega)
  have hc : (nI o).toNatClampNeg = o := nI_tc (by omega)
  unfold fMod_create
  rw [h3, Option.bind_some]
  show fMod_create_J24 τ kv mv (nI o) = _
  unfold fMod_create_J24
  rw [gd hg, gd hg, gd hg, m_createB48 (o := o) rfl h1, Option.bind_some, hc]
  show (fMod_size (τ.1, crA τ o kv mv) (nI o)).bind _ = _
  rw [m_size h1 (show KdT (τ.1, crA τ o kv mv) nk from hK) hT, Option.bind_some]
end CR
/-! the class's side: the cells of a new object -/
def newc (c : Nat → Int32) (a : Nat) (hd : Int32) (r i : Nat) : Nat → Int32 := fun y => if y = a then hd else if a < y ∧ y < a + i then (if y ≤ a + r then -1 else 0) else c y
theorem newc_1 {c : Nat → Int32} {a r : Nat} {hd : Int32} : newc c a hd r 1 = upd c a hd := by
  funext y; unfold newc upd
  by_cases h : y = a
  · rw [if_pos h, if_pos h]
  · rw [if_neg h, if_neg h, if_neg (by omega)]
theorem newc_s {c : Nat → Int32} {a r i : Nat} {hd : Int32} (h1 : 1 ≤ i) : upd (newc c a hd r i) (a + i) (if i ≤ r then -1 else 0) = newc c a hd r (i + 1) := by
  funext y
  by_cases h : y = a + i
  · subst h; rw [upd_s]; unfold newc
    by_cases hr : i ≤ r
    · rw [if_pos hr, if_neg (show ¬ a + i = a by omega), if_pos (show a < a + i ∧ a + i < a + (i + 1) by omega), if_pos (show a + i ≤ a + r by omega)]
    · rw [if_neg hr, if_neg (show ¬ a + i = a by omega), if_pos (show a < a + i ∧ a + i < a + (i + 1) by omega), if_neg (show ¬ a + i ≤ a + r by omega)]
  · rw [upd_n h]; unfold newc
    by_cases ha : y = a
    · rw [if_pos ha, if_pos ha]
    · rw [if_neg ha, if_neg ha]
      by_cases hb : a < y ∧ y < a + i
      · rw [if_pos hb, if_pos (show a < y ∧ y < a + (i + 1) by omega)]
      · rw [if_neg hb, if_neg (show ¬ (a < y ∧ y < a + (i + 1)) by omega)]
section CX
variable {L : Nat} {a s r : Nat}
theorem x_makeLoop (hL : L < 1000) (hs : s < 20) (hs1 : 1 ≤ s) (hr : r < 20) (ha : a + s ≤ L) (hd : Int32) (α : Nat → Int32) (h17 : α 17 = nI a) (β : Nat → Nat → Int32) :
    rbLoop (fRoom_make_B106 L (nI s) (nI r)) rbF (1, (α, va_up β 10 (upd (β 10) a hd))) = some (0, (nI s, (α, va_up β 10 (newc (β 10) a hd r s)))) := by
  have hcnt := rbLoop_count (f := fRoom_make_B106 L (nI s) (nI r)) (fun i => (nI (i + 1), (α, va_up β 10 (newc (β 10) a hd r (i + 1))))) (s - 1) ?_ 0 (nI s, (α, va_up β 10 (newc (β 10) a hd r s))) (by decide) ?_ rbF 0 (by omega) (by rw [rbF_val]; omega)
  · have e : newc (β 10) a hd r (0 + 1) = upd (β 10) a hd := newc_1
    rw [e] at hcnt
    exact hcnt
  · intro i hi
    have hidx : α 17 + nI (i + 1) = nI (a + (i + 1)) := by rw [h17, nI_add]
    have hg : ix (α 17 + nI (i + 1)) L := by rw [hidx]; exact ix_n (by omega) (by omega)
    have hc : (α 17 + nI (i + 1)).toNatClampNeg = a + (i + 1) := by rw [hidx]; exact nI_tc (by omega)
    have key : ∀ v : Int32, v = (if i + 1 ≤ r then -1 else 0) → fRoom_make_B106_J134 L (α, va_up β 10 (newc (β 10) a hd r (i + 1))) (nI s) (nI r) (nI (i + 1)) v (α 17 + nI (i + 1)) = some (1, (nI (i + 1 + 1), (α, va_up β 10 (newc (β 10) a hd r (i + 1 + 1))))) := by
      intro v hv
      unfold fRoom_make_B106_J134
      rw [gd hg, hc, nI_1]
      show some (1, (nI (i + 1 + 1), (α, va_up (va_up β 10 (newc (β 10) a hd r (i + 1))) 10 (upd (newc (β 10) a hd r (i + 1)) (a + (i + 1)) v)))) = _
      rw [bx_uu, hv, newc_s (by omega)]
    unfold fRoom_make_B106
    show (if nI s ≤ nI (i + 1) then _ else if nI r < nI (i + 1) then fRoom_make_B106_J134 L (α, va_up β 10 (newc (β 10) a hd r (i + 1))) (nI s) (nI r) (nI (i + 1)) 0 (α 17 + nI (i + 1)) else fRoom_make_B106_J134 L (α, va_up β 10 (newc (β 10) a hd r (i + 1))) (nI s) (nI r) (nI (i + 1)) (-1) (α 17 + nI (i + 1))) = _
    rw [if_neg (show ¬ nI s ≤ nI (i + 1) by rw [nI_le' (by omega) (by omega)]; omega)]
    by_cases h : i + 1 ≤ r
    · rw [if_neg (show ¬ nI r < nI (i + 1) by rw [nI_lt' (by omega) (by omega)]; omega), key (-1) (by rw [if_pos h])]
    · rw [if_pos (show nI r < nI (i + 1) by rw [nI_lt' (by omega) (by omega)]; omega), key 0 (by rw [if_neg h])]
  · have e : s - 1 + 1 = s := by omega
    show fRoom_make_B106 L (nI s) (nI r) (nI (s - 1 + 1), (α, va_up β 10 (newc (β 10) a hd r (s - 1 + 1)))) = _
    rw [e]
    unfold fRoom_make_B106
    show (if nI s ≤ nI s then _ else _) = _
    rw [if_pos (Int32.le_refl _)]
theorem x_make66 {σ : St} {id r i ns : Nat} (hL : L < 1000) (h0 : id < 10) (h1 : r < 5) (h2 : i < 5) (h17 : σ.1 17 = nI ns) (hs : 1 + r + i ≤ ns) (hn : ns ≤ L) :
    fRoom_make_J66 L σ (nI (hdN id r i)) (nI (1 + r + i)) 0 = some (nI (ns - (1 + r + i)), (upd (upd σ.1 20 0) 17 (nI (ns - (1 + r + i))), va_up σ.2 10 (newc (σ.2 10) (ns - (1 + r + i)) (nI (hdN id r i)) r (1 + r + i)))) := by
  unfold fRoom_make_J66
  rw [gd (Or.inl rfl), if_pos rfl, h17, pk_sub hs, x_refsIn ⟨h0, h1, h2, rfl⟩, Option.bind_some]
  have hg : ix (nI (ns - (1 + r + i))) L := ix_n (by omega) (by omega)
  have hc : (nI (ns - (1 + r + i))).toNatClampNeg = ns - (1 + r + i) := nI_tc (by omega)
  show (if ix (nI (ns - (1 + r + i))) L then (rbLoop (fRoom_make_B106 L (nI (1 + r + i)) (nI r)) rbF (1, (upd (upd σ.1 20 0) 17 (nI (ns - (1 + r + i))), va_up σ.2 10 (upd (σ.2 10) (nI (ns - (1 + r + i))).toNatClampNeg (nI (hdN id r i)))))).bind (fun q106 => some (q106.2.2.1 17, q106.2.2)) else none) = _
  rw [gd hg, hc, x_makeLoop (a := ns - (1 + r + i)) (s := 1 + r + i) (r := r) hL (by omega) (by omega) (by omega) (by omega) (nI (hdN id r i)) (upd (upd σ.1 20 0) 17 (nI (ns - (1 + r + i)))) rfl σ.2, Option.bind_some]
  rfl
end CX
