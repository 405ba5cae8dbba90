/-! instructions, both sides -/
section OP1
variable {n nk nf op pc : Nat} {σ τ : St} {ad : Nat → Nat} {cur dl o j : Nat} {sk : Nat → Nat}
theorem m_ix (h9 : τ.1 9 = nI cur) (hc : cur < 240) {x : Nat} (hx : x < 4) : ix ((4 : Int32) * τ.1 9 + nI x) 960 ∧ ((4 : Int32) * τ.1 9 + nI x).toNatClampNeg = 4 * cur + x ∧ (4 : Int32) * τ.1 9 + nI x = nI (4 * cur + x) := by
  have e : (4 : Int32) * τ.1 9 + nI x = nI (4 * cur + x) := by rw [h9, show (4 : Int32) = nI 4 from rfl, pk_mul, nI_add]
  rw [e]
  exact ⟨ix_n (by omega) (by omega), nI_tc (by omega), rfl⟩
theorem o_ix (hc : o < 240) {x : Nat} (hx : x < 4) : ix ((4 : Int32) * nI o + nI x) 960 ∧ ((4 : Int32) * nI o + nI x).toNatClampNeg = 4 * o + x ∧ (4 : Int32) * nI o + nI x = nI (4 * o + x) := by
  have e : (4 : Int32) * nI o + nI x = nI (4 * o + x) := by rw [show (4 : Int32) = nI 4 from rfl, pk_mul, nI_add]
  rw [e]
  exact ⟨ix_n (by omega) (by omega), nI_tc (by omega), rfl⟩
theorem mid_make (h : Mid n nk nf op pc σ τ ad cur sk dl) {kv mv : Int32} {id r i : Nat} (hk : KvOK τ nk nf kv mv id r i) :
    ∃ res σ' res' τ' ad', fRoom_make (2 * n) σ (nI (hdN id r i)) = some (res, σ') ∧ fMod_make τ kv mv = some (res', τ') ∧ τ'.1 9 = τ.1 9 ∧ τ'.1 10 = τ.1 10 ∧ MK τ τ' ∧
      ((σ'.1 20 = 1 ∧ τ'.1 12 = 3 ∧ Post n nk nf op pc σ' τ') ∨ (σ'.1 20 = 0 ∧ τ'.1 12 = 0 ∧ Mid n nk nf op pc σ' τ' ad' cur sk dl ∧ ∃ o, o < 240 ∧ o ≠ cur ∧ res = nI (ad' o) ∧ res' = nI o ∧ τ'.2 6 o = 1 ∧ τ'.2 7 o = kv ∧ τ'.2 8 o = mv ∧ (∀ j, j < 4 → τ'.2 9 (4 * o + j) = -1 ∧ τ'.2 10 (4 * o + j) = 0) ∧ (∀ p, p ≠ o → τ'.2 7 p = τ.2 7 p ∧ τ'.2 8 p = τ.2 8 p ∧ ∀ j, j < 4 → τ'.2 9 (4 * p + j) = τ.2 9 (4 * p + j) ∧ τ'.2 10 (4 * p + j) = τ.2 10 (4 * p + j)) ∧ ∀ i, i < dl → sk i ≠ o)) := by
  have hc := mid_cur h
  obtain ⟨c1, c2, c3, c4, c5, c6, c7, c8, c9, c10⟩ := hc
  obtain ⟨h1, h2, h3, h4, h5, h6⟩ := h
  obtain ⟨⟨fr, ro, bs, re, ns, rl, so, cc, hR⟩, g1, g2, g3, g4, hC, hs, hpl, hw, hfl⟩ := h2
  have hp := h1.2.2.2.1
  obtain ⟨res, σ', res', τ', ad', fr', ro', bs', re', ns', rl', so', cc', hX, hM, hR', xk, mk, hw', hfl', h11', hca', hcase⟩ := make_sim hR h3 h4 hw hfl hp.1 hp.2.1 hp.2.2 c1 c2 c5 c3 c4 hk
  have m9 : τ'.1 9 = τ.1 9 := mk.1 9 (by decide) (by decide) (by decide) (by decide) (by decide) (by decide) (by decide)
  have m10 : τ'.1 10 = τ.1 10 := mk.1 10 (by decide) (by decide) (by decide) (by decide) (by decide) (by decide) (by decide)
  have e4 : τ'.2 4 = τ.2 4 := mk.2 4 (by omega)
  have hS := h1.k xk mk
  have x1 : σ'.1 1 = 0 := (xk.1 1 (by omega)).trans h5
  have x2 : σ'.1 2 = 0 := (xk.1 2 (by omega)).trans h6
  refine ⟨res, σ', res', τ', ad', hX, hM, m9, m10, mk, ?_⟩
  rcases hcase with ⟨a1, a2, sb, a4⟩ | ⟨a1, a2, o, o1, o2, o3, o4, o5, o6, o7, o8, o9, o10⟩
  · refine Or.inl ⟨a1, a2, hS, ad', cur, sk, dl, ⟨⟨fr', ro', bs', re', ns', rl', so', cc', hR'⟩, c1, hca', m9.trans c3, h11', a4 sk dl hC hs, hs, fun i hi1 hi2 => (hpl i hi1 hi2).same (by rw [sb.2.1]) (by rw [sb.2.2.2]) e4, hw', hfl'⟩, Or.inl ⟨a1, a2, x1, x2⟩⟩
  · obtain ⟨hC', hno⟩ := o10 sk dl hC hs
    refine Or.inr ⟨a1, a2, ⟨hS, ⟨⟨fr', ro', bs', re', ns', rl', so', cc', ?_⟩, c1, hca', m9.trans c3, h11', hC', hs, ?_, hw', hfl'⟩, a1, a2, x1, x2⟩, o, o1, o2, o3, o4, o5, o6, o7, o8, o9, hno⟩
    · obtain ⟨b1, b2, b3, b4, b5, b6, b7, b8⟩ := hR'
      exact ⟨b1, b2, b3, b4, b5, b6, b7, fun _ => b8 a1⟩
    · intro i hi1 hi2
      have := o9 (sk i) (hno i hi2)
      exact (hpl i hi1 hi2).same this.2.1 (this.2.2 3 (by omega)).2 e4
/-- the place stays when another int or a ref is written -/
theorem pl_int {x : Nat} {v : Int32} (h : PlOK τ cur) (hx : x < 3) : PlOK (τ.1, va_up τ.2 10 (upd (τ.2 10) (4 * cur + x) v)) cur := h.same rfl (by show upd (τ.2 10) (4 * cur + x) v (4 * cur + 3) = _; exact upd_n (by omega)) rfl
theorem pl_ref {f : Nat → Int32} (h : PlOK τ cur) : PlOK (τ.1, va_up τ.2 9 f) cur := h.same rfl rfl rfl
def Sim (n nk nf op pc : Nat) (σ τ : St) (ov xv yv zv : Int32) : Prop := ∃ σ' τ', xDisp (2 * n) σ ov xv yv zv = some σ' ∧ mDisp τ ov xv yv zv = some τ' ∧ Post n nk nf op pc σ' τ'
theorem sim0 (h : Mid n nk nf op pc σ τ ad cur sk dl) (hp : PlOK τ cur) {a : Nat} (ha : a < 3) {yv zv : Int32} : Sim n nk nf op pc σ τ (nI 0) (nI a) yv zv := by
  obtain ⟨c1, c2, c3, c4, c5, c6, c7, c8, c9, c10⟩ := mid_cur h
  obtain ⟨i1, i2, i3⟩ := m_ix c3 c1 (show a < 4 by omega)
  obtain ⟨σ', hX, -, -, -, hM⟩ := mid_csetI h (show a < 4 by omega) zv
  refine ⟨σ', _, by rw [xd_0]; exact hX, by rw [md_0, gd i1, i2], hM.post (fun _ => pl_int hp ha)⟩
theorem sim1 (h : Mid n nk nf op pc σ τ ad cur sk dl) (hp : PlOK τ cur) {a b c : Nat} (ha : a < 3) (hb : b < 3) (hc : c < 3) : Sim n nk nf op pc σ τ (nI 1) (nI a) (nI b) (nI c) := by
  obtain ⟨c1, c2, c3, c4, c5, c6, c7, c8, c9, c10⟩ := mid_cur h
  obtain ⟨i1, i2, i3⟩ := m_ix c3 c1 (show a < 4 by omega)
  obtain ⟨k1, k2, k3⟩ := m_ix c3 c1 (show b < 4 by omega)
  obtain ⟨l1, l2, l3⟩ := m_ix c3 c1 (show c < 4 by omega)
  obtain ⟨σ', hX, -, -, -, hM⟩ := mid_csetI h (show a < 4 by omega) (τ.2 10 (4 * cur + b) + τ.2 10 (4 * cur + c))
  refine ⟨σ', _, ?_, by rw [md_1, gd k1, gd l1, gd i1, i2, k2, l2], hM.post (fun _ => pl_int hp ha)⟩
  rw [xd_1, mid_cint h (show b < 4 by omega), Option.bind_some]
  show (fMach_numberIn (2 * n) σ (nI c)).bind _ = _
  rw [mid_cint h (show c < 4 by omega), Option.bind_some]
  exact hX
theorem sim2 (h : Mid n nk nf op pc σ τ ad cur sk dl) (hp : PlOK τ cur) {a k : Nat} (ha : a < 3) (hk : k < nk) {yv : Int32} : Sim n nk nf op pc σ τ (nI 2) (nI a) yv (nI k) := by
  obtain ⟨c1, c2, c3, c4, c5, c6, c7, c8, c9, c10⟩ := mid_cur h
  obtain ⟨rk1, rk2, rk3, rk4⟩ := h.1.1
  have hk4 := rk3.1
  obtain ⟨t1, t2, -⟩ := rk4 k hk
  have kr := kr_le rk3 hk
  have ki := ki_le rk3 hk
  have hhd : fKinds_headOf (2 * n) σ (nI k) = some (nI (hdN k (krN τ k) (kiN τ k)), σ) := by
    have hg : ix (nI k) 4 := ix_n (by omega) (by omega)
    unfold fKinds_headOf
    rw [gd hg, gd hg, nI_tc (by omega), t1, t2, kr.2, ki.2, x_headOf (by omega) (by omega) (by omega), Option.bind_some]
  obtain ⟨res, σ', res', τ', ad', hX, hM, m9, m10, mk, hcase⟩ := mid_make (mv := 0) h (Or.inr ⟨k, hk, rfl, rfl, rfl, rfl⟩)
  have c1' := c1
  obtain ⟨i1, i2, i3⟩ := m_ix c3 c1 (show a < 4 by omega)
  have hX0 : fMach_doNew (2 * n) σ (nI a) (nI k) = if σ'.1 20 = 0 then fRoom_setRef (2 * n) σ' (σ'.1 11) (nI a) res else some σ' := by
    unfold fMach_doNew
    rw [hhd, Option.bind_some, hX, Option.bind_some, bnd]
  rcases hcase with ⟨a1, a2, hP⟩ | ⟨a1, a2, hMd, o, o1, o2, o3, o4, o5, o6, o7, o8, o9, o10⟩
  · refine ⟨σ', τ', ?_, ?_, hP⟩
    · rw [xd_2, hX0, if_neg (by rw [a1]; decide)]
    · rw [md_2, hM, Option.bind_some, if_neg (by rw [a2]; decide)]
  · have hcv : CVl τ' ad' cur a (nI o) (nI (ad' o)) := by
      refine Or.inr ⟨o, o1, rfl, Or.inl o5, rfl, ?_⟩
      rw [o6]
      exact ⟨fun e => absurd e (nI_m1 (by omega)), fun e => absurd e.2 (by omega)⟩
    obtain ⟨σ2, hX2, hM2⟩ := mid_csetR hMd ha hcv
    refine ⟨σ2, _, ?_, ?_, hM2.post (fun _ => pl_ref ?_)⟩
    · rw [xd_2, hX0, if_pos a1, o3]; exact hX2
    · rw [md_2, hM, Option.bind_some, if_pos a2, gd i1, i2, o4]
    · have := o9 cur (Ne.symm o2)
      exact hp.same this.2.1 (this.2.2 3 (by omega)).2 (mk.2 4 (by omega))
theorem sim3 (h : Mid n nk nf op pc σ τ ad cur sk dl) (hp : PlOK τ cur) {a b : Nat} (ha : a < 3) (hb : b < 3) {zv : Int32} : Sim n nk nf op pc σ τ (nI 3) (nI a) (nI b) zv := by
  obtain ⟨c1, c2, c3, c4, c5, c6, c7, c8, c9, c10⟩ := mid_cur h
  obtain ⟨i1, i2, i3⟩ := m_ix c3 c1 (show a < 4 by omega)
  obtain ⟨k1, k2, k3⟩ := m_ix c3 c1 (show b < 4 by omega)
  obtain ⟨r, σ', b', τ', ad', hX, hM, e11, m9, m10, sb, mk, hag, hcase⟩ := mid_read h c1 c2 (show b < nrN τ cur by omega)
  have hX0 : fMach_doCopy (2 * n) σ (nI a) (nI b) = if σ'.1 20 = 0 then fRoom_setRef (2 * n) σ' (σ'.1 11) (nI a) r else some σ' := by
    unfold fMach_doCopy
    rw [c4, hX, Option.bind_some, bnd]
  rcases hcase with ⟨a1, a2, a3, a4, hP⟩ | ⟨a1, a2, a3, hMd, hcv⟩
  · refine ⟨σ', τ', by rw [xd_3, hX0, if_neg (by rw [a1]; decide)], ?_, hP⟩
    rw [md_3, k3, hM, Option.bind_some, if_pos a3]
  · have hcv2 : CVl τ' ad' cur a (τ.2 9 (4 * cur + b)) r := by
      rcases hcv with hc | ⟨t, t1, t2, t3, t4, t5⟩
      · exact Or.inl hc
      · refine Or.inr ⟨t, t1, t2, t3, t4, ?_⟩
        exact ⟨fun e => absurd (t5.mp e).2 (by omega), fun e => absurd e.2 (by omega)⟩
    obtain ⟨σ2, hX2, hM2⟩ := mid_csetR hMd ha hcv2
    refine ⟨σ2, _, ?_, ?_, hM2.post (fun _ => pl_ref (hp.same (by rw [sb.2.1]) (by rw [sb.2.2.2]) (mk.2 4 (by omega))))⟩
    · rw [xd_3, hX0, if_pos a1]; exact hX2
    · rw [md_3, k3, hM, Option.bind_some, if_neg (show ¬ b' = 0 by rw [a3]; decide), gd (show ix (nI (4 * cur + b)) 960 by rw [← k3]; exact k1), gd i1, i2, nI_tc (by omega), sb.2.2.1]
theorem sim4 (h : Mid n nk nf op pc σ τ ad cur sk dl) (hp : PlOK τ cur) {a : Nat} (ha : a < 3) {yv zv : Int32} : Sim n nk nf op pc σ τ (nI 4) (nI a) yv zv := by
  obtain ⟨c1, c2, c3, c4, c5, c6, c7, c8, c9, c10⟩ := mid_cur h
  obtain ⟨i1, i2, i3⟩ := m_ix c3 c1 (show a < 4 by omega)
  obtain ⟨σ2, hX2, hM2⟩ := mid_csetR h ha (Or.inl ⟨rfl, rfl⟩)
  exact ⟨σ2, _, by rw [xd_4]; exact hX2, by rw [md_4, gd i1, i2], hM2.post (fun _ => pl_ref hp)⟩
/-- the place is set -/
theorem mid_place (h : Mid n nk nf op pc σ τ ad cur sk dl) {z : Nat} (hz : ∃ m, τ.2 8 cur = nI m ∧ m < 6 ∧ z < lenN τ m) : ∃ σ', fMach_setPlace (2 * n) σ (nI z) = some σ' ∧ Post n nk nf op pc σ' (τ.1, va_up τ.2 10 (upd (τ.2 10) (4 * cur + 3) (nI z))) := by
  obtain ⟨c1, c2, c3, c4, c5, c6, c7, c8, c9, c10⟩ := mid_cur h
  obtain ⟨σ', -, hX, -, -, hM⟩ := mid_csetI h (show 3 < 4 by omega) (nI z)
  obtain ⟨m, h1, h2, h3⟩ := hz
  refine ⟨σ', ?_, hM.post (fun _ => ⟨m, z, h1, h2, h3, upd_s⟩)⟩
  unfold fMach_setPlace
  rw [bnd]; exact hX
theorem sim9 (h : Mid n nk nf op pc σ τ ad cur sk dl) {z : Nat} (hz : ∃ m, τ.2 8 cur = nI m ∧ m < 6 ∧ z < lenN τ m) {xv yv : Int32} : Sim n nk nf op pc σ τ (nI 9) xv yv (nI z) := by
  obtain ⟨c1, c2, c3, c4, c5, c6, c7, c8, c9, c10⟩ := mid_cur h
  obtain ⟨i1, i2, i3⟩ := m_ix c3 c1 (show 3 < 4 by omega)
  obtain ⟨σ', hX, hP⟩ := mid_place h hz
  refine ⟨σ', _, by rw [xd_9]; exact hX, ?_, hP⟩
  rw [md_9]
  show (if ix ((4 : Int32) * τ.1 9 + nI 3) 960 then some (τ.1, va_up τ.2 10 (upd (τ.2 10) ((4 : Int32) * τ.1 9 + nI 3).toNatClampNeg (nI z))) else none) = _
  rw [gd i1, i2]
theorem sim10 (h : Mid n nk nf op pc σ τ ad cur sk dl) (hp : PlOK τ cur) {a z : Nat} (ha : a < 3) (hz : ∃ m, τ.2 8 cur = nI m ∧ m < 6 ∧ z < lenN τ m) {yv : Int32} : Sim n nk nf op pc σ τ (nI 10) (nI a) yv (nI z) := by
  obtain ⟨c1, c2, c3, c4, c5, c6, c7, c8, c9, c10⟩ := mid_cur h
  obtain ⟨i1, i2, i3⟩ := m_ix c3 c1 (show 3 < 4 by omega)
  obtain ⟨k1, k2, k3⟩ := m_ix c3 c1 (show a < 4 by omega)
  have hX0 : fMach_doZero (2 * n) σ (nI a) (nI z) = if τ.2 10 (4 * cur + a) = 0 then fMach_setPlace (2 * n) σ (nI z) else some σ := by
    unfold fMach_doZero
    rw [mid_cint h (show a < 4 by omega), Option.bind_some, bnd]
  by_cases h0 : τ.2 10 (4 * cur + a) = 0
  · obtain ⟨σ', hX, hP⟩ := mid_place h hz
    refine ⟨σ', _, by rw [xd_10, hX0, if_pos h0]; exact hX, ?_, hP⟩
    rw [md_10]
    show (if ix ((4 : Int32) * τ.1 9 + nI a) 960 then (if τ.2 10 ((4 : Int32) * τ.1 9 + nI a).toNatClampNeg = 0 then (if ix ((4 : Int32) * τ.1 9 + nI 3) 960 then some (τ.1, va_up τ.2 10 (upd (τ.2 10) ((4 : Int32) * τ.1 9 + nI 3).toNatClampNeg (nI z))) else none) else some τ) else none) = _
    rw [gd k1, if_pos (by rw [k2]; exact h0), gd i1, i2]
  · refine ⟨σ, τ, by rw [xd_10, hX0, if_neg h0], ?_, h.post (fun _ => hp)⟩
    rw [md_10, gd k1, if_neg (by rw [k2]; exact h0)]
theorem sim11 (h : Mid n nk nf op pc σ τ ad cur sk dl) (hp : PlOK τ cur) {a z : Nat} (ha : a < 3) (hz : ∃ m, τ.2 8 cur = nI m ∧ m < 6 ∧ z < lenN τ m) {yv : Int32} : Sim n nk nf op pc σ τ (nI 11) (nI a) yv (nI z) := by
  obtain ⟨c1, c2, c3, c4, c5, c6, c7, c8, c9, c10⟩ := mid_cur h
  obtain ⟨i1, i2, i3⟩ := m_ix c3 c1 (show 3 < 4 by omega)
  obtain ⟨k1, k2, k3⟩ := m_ix c3 c1 (show a < 4 by omega)
  obtain ⟨r, σ', b', τ', ad', hX, hM, e11, m9, m10, sb, mk, hag, hcase⟩ := mid_read h c1 c2 (show a < nrN τ cur by omega)
  have hX0 : fMach_doVoid (2 * n) σ (nI a) (nI z) = if r = -1 then fMach_setPlace (2 * n) σ' (nI z) else some σ' := by
    unfold fMach_doVoid
    rw [c4, hX, Option.bind_some, bnd]
  have hM0 : mDisp τ (nI 11) (nI a) yv (nI z) = if b' = 0 then some τ' else (if τ.2 9 (4 * cur + a) = -1 then some (τ'.1, va_up τ'.2 10 (upd (τ'.2 10) (4 * cur + 3) (nI z))) else some τ') := by
    rw [md_11]
    show ((fMod_read τ ((4 : Int32) * τ.1 9 + nI a)).bind fun p => if p.1 = 0 then some p.2 else (if ix ((4 : Int32) * τ.1 9 + nI a) 960 then (if p.2.2 9 ((4 : Int32) * τ.1 9 + nI a).toNatClampNeg = -1 then (if ix ((4 : Int32) * τ.1 9 + nI 3) 960 then some (p.2.1, va_up p.2.2 10 (upd (p.2.2 10) ((4 : Int32) * τ.1 9 + nI 3).toNatClampNeg (nI z))) else none) else some p.2) else none)) = _
    have hr : fMod_read τ ((4 : Int32) * τ.1 9 + nI a) = some (b', τ') := by rw [k3]; exact hM
    rw [hr, Option.bind_some, gd k1, gd i1, i2]
    show (if b' = 0 then some τ' else (if τ'.2 9 ((4 : Int32) * τ.1 9 + nI a).toNatClampNeg = -1 then _ else _)) = _
    by_cases hb : b' = 0
    · rw [if_pos hb, if_pos hb]
    · rw [if_neg hb, if_neg hb]
      by_cases hn : τ.2 9 (4 * cur + a) = -1
      · rw [if_pos hn, if_pos (by rw [k2, sb.2.2.1]; exact hn)]
      · rw [if_neg hn, if_neg (by rw [k2, sb.2.2.1]; exact hn)]
  rcases hcase with ⟨a1, a2, a3, a4, hP⟩ | ⟨a1, a2, a3, hMd, hcv⟩
  · exact ⟨σ', τ', by rw [xd_11, hX0, if_neg a4], by rw [hM0, if_pos a3], hP⟩
  · have e4 : τ'.2 4 = τ.2 4 := mk.2 4 (by omega)
    by_cases hn : τ.2 9 (4 * cur + a) = -1
    · have hr : r = -1 := by
        rcases hcv with hc | ⟨t, t1, t2, -⟩
        · exact hc.2
        · rw [hn] at t2; exact absurd t2.symm (nI_m1 (by omega))
      obtain ⟨σ2, hX2, hP2⟩ := mid_place hMd (z := z) (by obtain ⟨m, m1, m2, m3⟩ := hz; exact ⟨m, by rw [sb.2.1]; exact m1, m2, by unfold lenN; rw [e4]; exact m3⟩)
      exact ⟨σ2, _, by rw [xd_11, hX0, if_pos hr]; exact hX2, by rw [hM0, if_neg (by rw [a3]; decide), if_pos hn], hP2⟩
    · have hr : ¬ r = -1 := by
        rcases hcv with hc | ⟨t, t1, t2, t3, t4, -⟩
        · exact absurd hc.1 hn
        · rw [t4]
          have hb := (hp_obj hMd.2.1 t1 (by rcases t3 with h | h <;> rw [h] <;> decide))
          exact nI_m1 (by omega)
      exact ⟨σ', τ', by rw [xd_11, hX0, if_neg hr], by rw [hM0, if_neg (by rw [a3]; decide), if_neg hn], hMd.post (fun _ => hp.same (by rw [sb.2.1]) (by rw [sb.2.2.2]) e4)⟩
theorem sim14 (h : Mid n nk nf op pc σ τ ad cur sk dl) {a : Nat} (ha : a < 3) {yv zv : Int32} : Sim n nk nf op pc σ τ (nI 14) (nI a) yv zv := by
  obtain ⟨c1, c2, c3, c4, c5, c6, c7, c8, c9, c10⟩ := mid_cur h
  obtain ⟨i1, i2, i3⟩ := m_ix c3 c1 (show a < 4 by omega)
  obtain ⟨r1, r2, r3⟩ := mid_raise h (τ.2 10 (4 * cur + a))
  exact ⟨_, _, by rw [xd_14, mid_cint h (show a < 4 by omega), Option.bind_some]; exact r1, by rw [md_14, gd i1, i2]; exact r2, r3⟩
end OP1
