/-! CALL -/
section OP4
variable {n nk nf op pc : Nat} {σ τ : St} {ad : Nat → Nat} {cur dl o j : Nat} {sk : Nat → Nat}
/-- a new frame becomes the current one -/
theorem mid_push (h : Mid n nk nf op pc σ τ ad cur sk dl) {g : Nat} (hl : τ.2 9 (4 * g + 3) = nI cur) (hg : g < 240) (hga : τ.2 6 g = 1 ∨ τ.2 6 g = 2) (hk : τ.2 7 g = -1) (hno : ∀ i, i < dl → sk i ≠ g) (hp : PlOK τ cur) : Mid n nk nf op pc (upd σ.1 11 (nI (ad g)), σ.2) (upd τ.1 9 (nI g), τ.2) ad g (fun i => if i = 0 then g else sk (i - 1)) (dl + 1) := by
  obtain ⟨h1, ⟨hR, g1, g2, g3, g4, hC, hs, hpl, hw, hfl⟩, h3, h4, h5, h6⟩ := h
  obtain ⟨c1, c2, c3, c4, c5⟩ := hC
  have sS : ∀ i, (if i + 1 = 0 then g else sk (i + 1 - 1)) = sk i := fun i => by rw [if_neg (by omega)]; rfl
  refine ⟨h1, ⟨hR, hg, hga, rfl, rfl, ⟨by omega, ?_, ?_, ?_, ?_⟩, rfl, ?_, hw, hfl⟩, h3, h4, h5, h6⟩
  · intro i hi
    cases i with
    | zero => exact ⟨hg, (show τ.2 6 g ≠ 0 by rcases hga with h | h <;> rw [h] <;> decide), hk⟩
    | succ i => simp only [sS]; exact c2 i (by omega)
  · intro i hi
    cases i with
    | zero =>
      show τ.2 9 (4 * g + 3) = nI (sk 0)
      rw [hs]; exact hl
    | succ i => simp only [sS]; exact c3 i (by omega)
  · show τ.2 9 (4 * (if dl = 0 then g else sk (dl - 1)) + 3) = -1
    rw [if_neg (by omega)]; exact c4
  · intro i j hi hj
    cases i with
    | zero =>
      cases j with
      | zero => intro _; rfl
      | succ j => simp only [sS]; intro e; exact absurd e.symm (hno j (by omega))
    | succ i =>
      cases j with
      | zero => simp only [sS]; intro e; exact absurd e (hno i (by omega))
      | succ j => simp only [sS]; intro e; have := c5 i j (by omega) (by omega) e; omega
  · intro i hi1 hi2
    cases i with
    | zero => omega
    | succ i =>
      simp only [sS]
      cases i with
      | zero => rw [hs]; exact hp
      | succ i => exact hpl (i + 1) (by omega) (by omega)
theorem enter_sim (h : Mid n nk nf op pc σ τ ad cur sk dl) (hp : PlOK τ cur) {g m : Nat} (hg : g < 240) (hga : τ.2 6 g = 1 ∨ τ.2 6 g = 2) (hk : τ.2 7 g = -1) (h8 : τ.2 8 g = nI m) (hm : m < nf) (h3 : τ.2 10 (4 * g + 3) = 0) (hgc : g ≠ cur) (hno : ∀ i, i < dl → sk i ≠ g) {p0 v0 p1 v1 : Int32} (hv0 : CVl τ ad g 0 p0 v0) (hv1 : CVl τ ad g 1 p1 v1) :
    ∃ σ', fMach_enterFrame (2 * n) σ (nI (ad g)) v0 v1 = some σ' ∧ Post n nk nf op pc σ' (upd τ.1 9 (nI g), va_up (va_up (va_up (va_up τ.2 9 (upd (τ.2 9) (4 * g) p0)) 9 (upd (upd (τ.2 9) (4 * g) p0) (4 * g + 1) p1)) 9 (upd (upd (upd (τ.2 9) (4 * g) p0) (4 * g + 1) p1) (4 * g + 3) (nI cur))) 10 (upd (τ.2 10) (4 * g) (τ.2 10 (4 * cur)))) := by
  obtain ⟨c1, c2, c3, c4, c5, c6, c7, c8, c9, c10⟩ := mid_cur h
  have hfr := frame_nr hk
  obtain ⟨a1, m1⟩ := mid_setRef (j := 0) h hg hga (by omega) (Or.inl (by omega)) hv0
  obtain ⟨a2, m2⟩ := mid_setRef (j := 1) m1 hg hga (show 1 < nrN τ g by omega) (Or.inl (by omega)) (p := p1) (v := v1) hv1
  obtain ⟨a3, m3⟩ := mid_setRef (j := 3) m2 hg hga (show 3 < nrN τ g by omega) (Or.inr hno) (p := nI cur) (v := nI (ad cur)) (Or.inr ⟨cur, c1, rfl, c2, rfl, ⟨fun _ => ⟨hk, rfl⟩, fun _ => c5⟩⟩)
  have a4 := mid_cint (x := 0) m3 (by omega)
  obtain ⟨a5, m5⟩ := mid_setInt (j := 0) m3 hg hga (show 0 < niN τ g by omega) (Or.inl (by omega)) (τ.2 10 (4 * cur + 0))
  have hm' : m < 6 := by have := h.1.2.1.2.2.2.2.2.1; omega
  have m6 := mid_push m5 (g := g) upd_s hg hga hk hno (hp.same rfl (by show upd (τ.2 10) (4 * g + 0) _ (4 * cur + 3) = _; exact upd_n (by omega)) rfl)
  refine ⟨_, ?_, m6.post (fun _ => ⟨m, 0, h8, hm', (show 0 < lenN τ m from (h.1.2.1.2.2.2.2.2.2.2 m hm).1), ?_⟩)⟩
  · unfold fMach_enterFrame
    rw [show (0 : Int32) = nI 0 from rfl, show (1 : Int32) = nI 1 from rfl, show (3 : Int32) = nI 3 from rfl, a1, Option.bind_some, a2, Option.bind_some]
    show (fRoom_setRef (2 * n) _ (nI (ad g)) (nI 3) (σ.1 11)).bind _ = _
    rw [c4, a3, Option.bind_some, a4, Option.bind_some]
    show (fRoom_setInt (2 * n) _ (nI (ad g)) (nI 0) (τ.2 10 (4 * cur + 0))).bind _ = _
    rw [a5, Option.bind_some]
  · show upd (τ.2 10) (4 * g + 0) _ (4 * g + 3) = _
    rw [upd_n (by omega)]; exact h3
def callE (τ : St) (A B D g : Int32) : Option St :=
  if ix ((4 : Int32) * g) 960 then (if ix (((4 : Int32) * g) + 1) 960 then (if ix (((4 : Int32) * g) + 3) 960 then some (upd τ.1 9 g, va_up (va_up (va_up (va_up τ.2 9 (upd (τ.2 9) ((4 : Int32) * g).toNatClampNeg ((τ.2 9) A.toNatClampNeg))) 9 (upd (upd (τ.2 9) ((4 : Int32) * g).toNatClampNeg ((τ.2 9) A.toNatClampNeg)) (((4 : Int32) * g) + 1).toNatClampNeg ((upd (τ.2 9) ((4 : Int32) * g).toNatClampNeg ((τ.2 9) A.toNatClampNeg)) B.toNatClampNeg))) 9 (upd (upd (upd (τ.2 9) ((4 : Int32) * g).toNatClampNeg ((τ.2 9) A.toNatClampNeg)) (((4 : Int32) * g) + 1).toNatClampNeg ((upd (τ.2 9) ((4 : Int32) * g).toNatClampNeg ((τ.2 9) A.toNatClampNeg)) B.toNatClampNeg)) (((4 : Int32) * g) + 3).toNatClampNeg (τ.1 9))) 10 (upd (τ.2 10) ((4 : Int32) * g).toNatClampNeg ((τ.2 10) D.toNatClampNeg))) else none) else none) else none
def callT (τ : St) (A B D e : Int32) : Option St :=
  if e = -1 then fMod_raise τ 3 else (fMod_make τ (-1) e).bind fun p77 => if p77.2.1 12 = 0 then ((fMod_read p77.2 A).bind fun p94 => if p94.1 = 0 then (some p94.2) else ((fMod_read p94.2 B).bind fun p105 => if p105.1 = 0 then (some p105.2) else callE p105.2 A B D p77.1)) else (some p77.2)
theorem gd3 {c d e : Prop} {i : Decidable c} {k : Decidable d} {l : Decidable e} {α : Type} {x : Option α} : (if c then (if d then (if e then (if c then x else none) else none) else none) else none) = (if c then (if d then (if e then x else none) else none) else none) := by by_cases hc : c <;> simp [hc]
theorem m_call {x1 x2 x3 A B D : Int32} (ha : (4 : Int32) * τ.1 9 + x1 = A) (hb : (4 : Int32) * τ.1 9 + x2 = B) (hd : (4 : Int32) * τ.1 9 = D) (iA : ix A 960) (iB : ix B 960) (iD : ix D 960) : fMod_call τ x1 x2 x3 = (fMod_read τ A).bind fun p => if p.1 = 0 then some p.2 else (if p.2.2 9 A.toNatClampNeg = -1 then fMod_raise p.2 1 else (if ix (p.2.2 9 A.toNatClampNeg) 240 then (if ix ((4 : Int32) * p.2.2 7 (p.2.2 9 A.toNatClampNeg).toNatClampNeg + x3) 16 then callT p.2 A B D (p.2.2 2 ((4 : Int32) * p.2.2 7 (p.2.2 9 A.toNatClampNeg).toNatClampNeg + x3).toNatClampNeg) else none) else none)) := by
  subst ha hb hd
  unfold fMod_call callT callE
  simp only [if_pos iA, if_pos iB, if_pos iD, bnd, gd3]
theorem x_entry {k z : Nat} (hRK : RK σ τ nk nf) (hk : k < nk) (hz : z < 4) : fKinds_entry (2 * n) σ (nI k) (nI z) = some (τ.2 2 (4 * k + z), σ) := by
  obtain ⟨h1, h2, h3, h4⟩ := hRK
  have hn4 := h3.1
  have e : nI k * 4 + nI z = nI (4 * k + z) := by rw [show (4 : Int32) = nI 4 from rfl, pk_mul, nI_add]; congr 1; omega
  unfold fKinds_entry fKinds_has
  rw [if_neg (nI_nlt0 (by omega)), if_neg (by rw [h1, nI_le' (by omega) (by omega)]; omega), Option.bind_some]
  show (if (1 : Int32) = 0 then _ else (if ix (nI k * 4 + nI z) 16 then some (σ.2 3 (nI k * 4 + nI z).toNatClampNeg, σ) else none)) = _
  rw [if_neg (by decide), e, gd (ix_n (by omega) (by omega)), nI_tc (by omega), ((h4 k hk).2.2 z hz).1]
theorem sim12 (h : Mid n nk nf op pc σ τ ad cur sk dl) (hp : PlOK τ cur) {a b z : Nat} (ha : a < 3) (hb : b < 3) (hz : z < 4) : Sim n nk nf op pc σ τ (nI 12) (nI a) (nI b) (nI z) := by
  obtain ⟨c1, c2, c3, c4, c5, c6, c7, c8, c9, c10⟩ := mid_cur h
  obtain ⟨i1, i2, i3⟩ := m_ix c3 c1 (show a < 4 by omega)
  obtain ⟨k1, k2, k3⟩ := m_ix c3 c1 (show b < 4 by omega)
  have e4 : (4 : Int32) * τ.1 9 = nI (4 * cur) := by rw [c3, show (4 : Int32) = nI 4 from rfl, pk_mul]
  have l1 : ix ((4 : Int32) * τ.1 9) 960 := by rw [e4]; exact ix_n (by omega) (by omega)
  have l2 : ((4 : Int32) * τ.1 9).toNatClampNeg = 4 * cur := by rw [e4]; exact nI_tc (by omega)
  obtain ⟨r, σ', b', τ', ad', hX, hM, e11, m9, m10, sb, mk, hag, hcase⟩ := mid_read h c1 c2 (show a < nrN τ cur by omega)
  have hM0 := m_call (τ := τ) (x1 := nI a) (x2 := nI b) (x3 := nI z) rfl rfl rfl i1 k1 l1
  have hX0 : fMach_doCall (2 * n) σ (nI a) (nI b) (nI z) = (fMach_isThere (2 * n) σ' r).bind fun p20 => if p20.1 = 0 then (some p20.2) else ((fRoom_idOf (2 * n) p20.2 r).bind fun p37 => (fKinds_entry (2 * n) p37.2 p37.1 (nI z)).bind fun p41 => if p41.1 = (-1) then (fMach_raise (2 * n) p41.2 3) else ((fRoom_headOfFrame (2 * n) p41.2 p41.1).bind fun p64 => (fRoom_make (2 * n) p64.2 p64.1).bind fun p67 => if (p67.2.1 20) = 0 then ((fRoom_readRef (2 * n) p67.2 (p67.2.1 11) (nI a)).bind fun p95 => if (p95.2.1 20) = 0 then ((fRoom_readRef (2 * n) p95.2 (p95.2.1 11) (nI b)).bind fun p123 => if (p123.2.1 20) = 0 then (fMach_enterFrame (2 * n) p123.2 p67.1 p95.1 p123.1) else (some p123.2)) else (some p95.2)) else (some p67.2))) := by
    unfold fMach_doCall
    rw [c4, hX, Option.bind_some]
    simp only [bnd]
  have hr1 : fMod_read τ ((4 : Int32) * τ.1 9 + nI a) = some (b', τ') := by rw [i3]; exact hM
  rw [hr1, Option.bind_some] at hM0
  rcases hcase with ⟨a1, a2, a3, a4, hP⟩ | ⟨a1, a2, a3, hMd, hcv⟩
  · refine ⟨σ', τ', ?_, by rw [md_12, hM0, if_pos a3], hP⟩
    rw [xd_12, hX0]
    unfold fMach_isThere
    rw [if_neg (by rw [a1]; decide), Option.bind_some]
    show (if (0 : Int32) = 0 then _ else _) = _
    rw [if_pos rfl]
  rw [if_neg (show ¬ b' = 0 by rw [a3]; decide)] at hM0
  obtain ⟨d1, d2, d3, d4, d5, d6, d7, d8, d9, d10⟩ := mid_cur hMd
  rcases hcv with ⟨hc1, hc2⟩ | ⟨t, t1, t2, t3, t4, t5⟩
  · obtain ⟨r1, r2, r3⟩ := mid_raise hMd 1
    refine ⟨_, _, ?_, by rw [md_12, hM0, if_pos (show τ'.2 9 ((4 : Int32) * τ.1 9 + nI a).toNatClampNeg = -1 by rw [i2, sb.2.2.1]; exact hc1)]; exact r2, r3⟩
    rw [xd_12, hX0]
    unfold fMach_isThere
    rw [if_pos a1, if_pos hc2, r1, Option.bind_some, Option.bind_some]
    show (if (0 : Int32) = 0 then _ else _) = _
    rw [if_pos rfl]
  have hne : τ'.2 6 t ≠ 0 := by rcases t3 with h | h <;> rw [h] <;> decide
  have hk : ¬ τ'.2 7 t = -1 := fun e => absurd (t5.mp e).2 (by omega)
  obtain ⟨k, q1, q2, q3, q4, q5, q6, q7, q8, q9, q10⟩ := kinded hMd t1 hne hk
  obtain ⟨oT, hK, hf6, hn2, hbd, hhd, -⟩ := hp_obj hMd.2.1 t1 hne
  have hrn : ¬ r = -1 := by rw [t4]; exact nI_m1 (by omega)
  have hsz : szN τ' t = 1 + nrN τ' t + niN τ' t := rfl
  have ht9 : τ'.2 9 ((4 : Int32) * τ.1 9 + nI a).toNatClampNeg = nI t := by rw [i2, sb.2.2.1]; exact t2
  have e7 : (4 : Int32) * nI k + nI z = nI (4 * k + z) := by rw [show (4 : Int32) = nI 4 from rfl, pk_mul, nI_add]
  have hM1 : fMod_call τ (nI a) (nI b) (nI z) = callT τ' ((4 : Int32) * τ.1 9 + nI a) ((4 : Int32) * τ.1 9 + nI b) ((4 : Int32) * τ.1 9) (τ'.2 2 (4 * k + z)) := by
    rw [hM0, if_neg (by rw [ht9]; exact nI_m1 (by omega))]
    show (if ix (τ'.2 9 ((4 : Int32) * τ.1 9 + nI a).toNatClampNeg) 240 then (if ix ((4 : Int32) * τ'.2 7 (τ'.2 9 ((4 : Int32) * τ.1 9 + nI a).toNatClampNeg).toNatClampNeg + nI z) 16 then callT τ' ((4 : Int32) * τ.1 9 + nI a) ((4 : Int32) * τ.1 9 + nI b) ((4 : Int32) * τ.1 9) (τ'.2 2 ((4 : Int32) * τ'.2 7 (τ'.2 9 ((4 : Int32) * τ.1 9 + nI a).toNatClampNeg).toNatClampNeg + nI z).toNatClampNeg) else none) else none) = _
    rw [ht9, gd (ix_n t1 (by omega)), nI_tc (show t < 100000 by omega), q3, e7, gd (ix_n (show 4 * k + z < 16 by omega) (by omega)), nI_tc (show 4 * k + z < 100000 by omega)]
  have hX1 : fMach_doCall (2 * n) σ (nI a) (nI b) (nI z) = if τ'.2 2 (4 * k + z) = (-1) then (fMach_raise (2 * n) σ' 3) else ((fRoom_headOfFrame (2 * n) σ' (τ'.2 2 (4 * k + z))).bind fun p64 => (fRoom_make (2 * n) p64.2 p64.1).bind fun p67 => if (p67.2.1 20) = 0 then ((fRoom_readRef (2 * n) p67.2 (p67.2.1 11) (nI a)).bind fun p95 => if (p95.2.1 20) = 0 then ((fRoom_readRef (2 * n) p95.2 (p95.2.1 11) (nI b)).bind fun p123 => if (p123.2.1 20) = 0 then (fMach_enterFrame (2 * n) p123.2 p67.1 p95.1 p123.1) else (some p123.2)) else (some p95.2)) else (some p67.2)) := by
    rw [hX0]
    unfold fMach_isThere
    rw [if_pos a1, if_neg hrn, Option.bind_some]
    show (if (1 : Int32) = 0 then _ else (fRoom_idOf (2 * n) σ' r).bind _) = _
    rw [if_neg (by decide), t4, x_idOf (by omega) (by omega) hhd, Option.bind_some, q10]
    show (fKinds_entry (2 * n) σ' (nI k) (nI z)).bind _ = _
    rw [x_entry hMd.1.1 q1 hz, Option.bind_some]
  rcases ((hMd.1.1.2.2.2 k q1).2.2 z hz).2 with he | ⟨m, hm, he⟩
  · obtain ⟨r1, r2, r3⟩ := mid_raise hMd 3
    refine ⟨_, _, by rw [xd_12, hX1, if_pos he]; exact r1, ?_, r3⟩
    rw [md_12, hM1]
    unfold callT
    rw [if_pos he]; exact r2
  rw [he] at hX1 hM1
  have hm6 : m < 6 := by omega
  rw [if_neg (nI_m1 (by omega)), x_headOfFrame hm6, Option.bind_some] at hX1
  unfold callT at hM1
  rw [if_neg (nI_m1 (show m < 100000 by omega))] at hM1
  obtain ⟨res, σ2, res', τ2, ad2, hX2, hM2, m92, m102, mk2, hcase2⟩ := mid_make (kv := -1) (mv := nI m) hMd (Or.inl ⟨rfl, m, hm, rfl, rfl, rfl, rfl⟩)
  rw [show fRoom_make (2 * n) (nI (hdN (4 + m) 4 4), σ').2 (nI (hdN (4 + m) 4 4), σ').1 = some (res, σ2) from hX2, Option.bind_some] at hX1
  rw [hM2, Option.bind_some] at hM1
  rcases hcase2 with ⟨g1, g2, hP⟩ | ⟨g1, g2, hM3, g, o1, o2, o3, o4, o5, o6, o7, o8, o9, o10⟩
  · exact ⟨σ2, τ2, by rw [xd_12, hX1, if_neg (by rw [g1]; decide)], by rw [md_12, hM1, if_neg (by rw [g2]; decide)], hP⟩
  rw [if_pos g1] at hX1
  rw [if_pos g2] at hM1
  obtain ⟨f1, f2, f3, f4, f5, f6, f7, f8, f9, f10⟩ := mid_cur hM3
  obtain ⟨r4, σ3, b3, τ3, ad3, hX4, hM4, e114, m94, m104, sb4, mk4, hag4, hcase4⟩ := mid_read hM3 f1 f2 (show a < nrN τ2 cur by omega)
  rw [show fRoom_readRef (2 * n) σ2 (σ2.1 11) (nI a) = some (r4, σ3) by rw [f4]; exact hX4, Option.bind_some] at hX1
  rw [show fMod_read τ2 ((4 : Int32) * τ.1 9 + nI a) = some (b3, τ3) by rw [i3]; exact hM4, Option.bind_some] at hM1
  rcases hcase4 with ⟨v1, v2, v3, v4, hP⟩ | ⟨v1, v2, v3, hM5, hcv5⟩
  · exact ⟨σ3, τ3, by rw [xd_12, hX1, if_neg (by rw [v1]; decide)], by rw [md_12, hM1, if_pos v3], hP⟩
  rw [if_pos v1] at hX1
  rw [if_neg (show ¬ b3 = 0 by rw [v3]; decide)] at hM1
  obtain ⟨y1, y2, y3, y4, y5, y6, y7, y8, y9, y10⟩ := mid_cur hM5
  obtain ⟨r5, σ4, b4, τ4, ad4, hX6, hM6, e116, m96, m106, sb6, mk6, hag6, hcase6⟩ := mid_read hM5 y1 y2 (show b < nrN τ3 cur by omega)
  rw [show fRoom_readRef (2 * n) σ3 (σ3.1 11) (nI b) = some (r5, σ4) by rw [y4]; exact hX6, Option.bind_some] at hX1
  rw [show fMod_read τ3 ((4 : Int32) * τ.1 9 + nI b) = some (b4, τ4) by rw [k3]; exact hM6, Option.bind_some] at hM1
  rcases hcase6 with ⟨v1, v2, v3, v4, hP⟩ | ⟨u1, u2, u3, hM7, hcv7⟩
  · exact ⟨σ4, τ4, by rw [xd_12, hX1, if_neg (by rw [v1]; decide)], by rw [md_12, hM1, if_pos v3], hP⟩
  rw [if_pos u1] at hX1
  rw [if_neg (show ¬ b4 = 0 by rw [u3]; decide)] at hM1
  have hg3 := hag4 g (Or.inl o5)
  have hg4 := hag6 g (by rw [hg3.1]; exact Or.inl o5)
  have ga : τ4.2 6 g = 1 := by rw [hg4.1, hg3.1]; exact o5
  have gad : ad4 g = ad2 g := by rw [hg4.2, hg3.2]
  have e47 : τ4.2 7 = τ2.2 7 := by rw [sb6.1, sb4.1]
  have e48 : τ4.2 8 = τ2.2 8 := by rw [sb6.2.1, sb4.2.1]
  have e49 : τ4.2 9 = τ2.2 9 := by rw [sb6.2.2.1, sb4.2.2.1]
  have e410 : τ4.2 10 = τ2.2 10 := by rw [sb6.2.2.2, sb4.2.2.2]
  have e44 : τ4.2 4 = τ.2 4 := by rw [mk6.2 4 (by omega), mk4.2 4 (by omega), mk2.2 4 (by omega), mk.2 4 (by omega)]
  have hcur := o9 cur (Ne.symm o2)
  have hp4 : PlOK τ4 cur := hp.same (by rw [e48, hcur.2.1, sb.2.1]) (by rw [e410, (hcur.2.2 3 (by omega)).2, sb.2.2.2]) e44
  obtain ⟨σ8, hX8, hP8⟩ := enter_sim hM7 hp4 (g := g) (m := m) o1 (Or.inl ga) (by rw [e47]; exact o6) (by rw [e48]; exact o7) hm (by rw [e410]; exact (o8 3 (by omega)).2) o2 o10 (hcv5.to (o' := g) (j' := 0) ha (by omega) hag6 sb6.1) (hcv7.to (o' := g) (j' := 1) hb (by omega) (fun _ _ => ⟨rfl, rfl⟩) rfl)
  refine ⟨σ8, _, by rw [xd_12, hX1, o3, ← gad]; exact hX8, ?_, hP8⟩
  rw [md_12, hM1]
  show callE τ4 _ _ _ res' = _
  have w0 : (4 : Int32) * nI g = nI (4 * g) := by rw [show (4 : Int32) = nI 4 from rfl, pk_mul]
  have w1 : (4 : Int32) * nI g + 1 = nI (4 * g + 1) := by rw [w0, show (1 : Int32) = nI 1 from rfl, nI_add]
  have w3 : (4 : Int32) * nI g + 3 = nI (4 * g + 3) := by rw [w0, show (3 : Int32) = nI 3 from rfl, nI_add]
  obtain ⟨z1, z2, z3, z4, -⟩ := mid_cur hM7
  unfold callE
  rw [o4, w1, w3, w0, gd (ix_n (show 4 * g < 960 by omega) (by omega)), gd (ix_n (show 4 * g + 1 < 960 by omega) (by omega)), gd (ix_n (show 4 * g + 3 < 960 by omega) (by omega)), nI_tc (show 4 * g < 100000 by omega), nI_tc (show 4 * g + 1 < 100000 by omega), nI_tc (show 4 * g + 3 < 100000 by omega), i2, k2, l2, upd_n (show 4 * cur + b ≠ 4 * g by omega), z3, e49, e410, sb4.2.2.1]
end OP4
