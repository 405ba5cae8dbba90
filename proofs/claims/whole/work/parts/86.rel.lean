/-! the relation -/
theorem ask_do {n nk nf op pc : Nat} {σ τ : St} {X M : Option (Int32 × St)} (h : RR n nk nf op pc σ τ) (a : Ask n σ τ X M) : Do n X M := by
  obtain ⟨v, h1, h2⟩ := a
  exact ⟨(v, σ), (v, τ), h1, h2, rfl, nk, nf, op, pc, h⟩
theorem sims_ok (n : Nat) : Sims (2 * n) (RX n) := by
  intro σ τ h
  obtain ⟨nk, nf, op, pc, h⟩ := h
  refine ⟨fun a b c => kind_ok h a b c, fun a b c => bind_ok h a b c, fun a => method_ok h a, fun a b c d => code_ok h a b c d, seal_ok h, drop_ok h, fun a b => ?_, fun a => ?_, ask_do h (state_ok h), ask_do h (result_ok h), fun a => ask_do h (shown_ok h a), ask_do h (work_ok h), ask_do h (used_ok h), ask_do h (grey_ok h), ask_do h (flips_ok h), ask_do h (depth_ok h), live_ok h, fun a b => ask_do h (kindAt_ok h a b), fun a => ask_do h (number_ok h a)⟩
  · obtain ⟨p, q, h1, h2, h3, h4⟩ := start_ok h a b
    exact ⟨p, q, h1, h2, h3, nk, nf, op, pc, h4⟩
  · obtain ⟨p, q, h1, h2, h3, h4⟩ := run_ok h a
    exact ⟨p, q, h1, h2, h3, nk, nf, op, pc, h4⟩
theorem clamp_eq {lo hi x : Int32} (hlh : lo ≤ hi) : (if lo < (if x < hi then x else hi) then (if x < hi then x else hi) else lo) = (if lo ≤ x then (if x ≤ hi then x else hi) else lo) := by
  have q : ∀ a b : Int32, a.toInt = b.toInt → a = b := fun a b h => Int32.toInt_inj.mp h
  by_cases a : x < hi
  · rw [if_pos a]
    by_cases d : lo < x
    · rw [if_pos d, if_pos (Int32.le_of_lt d), if_pos (Int32.le_of_lt a)]
    · rw [if_neg d]
      by_cases b : lo ≤ x
      · rw [if_pos b, if_pos (Int32.le_of_lt a)]
        rw [Int32.lt_iff_toInt_lt] at d
        rw [Int32.le_iff_toInt_le] at b
        exact q _ _ (by omega)
      · rw [if_neg b]
  · rw [if_neg a]
    have hx : hi ≤ x := Int32.not_lt.mp a
    rw [if_pos (Int32.le_trans hlh hx)]
    have e2 : (if x ≤ hi then x else hi) = hi := by
      by_cases c : x ≤ hi
      · rw [if_pos c]
        rw [Int32.le_iff_toInt_le] at c hx
        exact q _ _ (by omega)
      · rw [if_neg c]
    rw [e2]
    by_cases d : lo < hi
    · rw [if_pos d]
    · rw [if_neg d]
      rw [Int32.lt_iff_toInt_lt] at d
      rw [Int32.le_iff_toInt_le] at hlh
      exact q _ _ (by omega)
theorem lmm_eq (x : Int32) : lmm x = lmt x := by
  unfold lmm lmt
  exact (clamp_eq (by decide)).symm
theorem pcm_eq (x : Int32) : pcm x = pce x := by
  unfold pcm pce
  exact (clamp_eq (by decide)).symm
theorem pce_ex (x : Int32) : ∃ pc, pc ≤ 8 ∧ pce x = nI pc := by
  obtain ⟨pc, p1, p2, p3⟩ := clampI 1 8 (by omega) (by omega) x
  refine ⟨pc, p2, ?_⟩
  unfold pce
  rw [show (1 : Int32) = nI 1 from rfl, show (8 : Int32) = nI 8 from rfl]
  exact p3
theorem ini_ok {σ τ : St} {n pc : Nat} {a b c d : Int32} (hσ : σ = (upd (upd (upd (upd (fun _ => 0) 1 4) 9 a) 10 b) 11 (-1), fun _ _ => 0)) (hτ : τ = (upd (upd (upd (fun _ => 0) 12 4) 0 c) 1 d, fun _ _ => 0)) (h24 : 24 ≤ n) (h120 : n ≤ 120) (ha : a = nI n) (hc : c = nI n) (hb : b = nI pc) (hd : d = nI pc) (hp : pc ≤ 8) : RR n 0 0 0 pc σ τ := by
  subst hσ hτ
  have z : nI 0 = 0 := rfl
  refine ⟨⟨⟨rfl, rfl, ⟨by omega, fun k hk => absurd hk (by omega)⟩, fun k hk => absurd hk (by omega)⟩, ⟨rfl, rfl, rfl, rfl, by omega, by omega, fun m hm => absurd hm (by omega), fun m hm => absurd hm (by omega)⟩, ⟨0, rfl, rfl, fun j _ hj => absurd hj (by omega)⟩, ⟨hb, hd, hp⟩, ⟨ha, hc, h24, h120⟩, rfl, rfl, ⟨rfl, Or.inl rfl⟩, fun _ => rfl⟩, Or.inl ⟨rfl, rfl, rfl, rfl, rfl, rfl, rfl, rfl, rfl, rfl⟩⟩
theorem rel_ok : ∀ (x1 x2 : Int32) (n : Nat), 24 ≤ n → n ≤ 120 → lmt x1 = nI n → ∃ Rel : St → St → Prop, Sims (2 * n) Rel ∧ Rel (sg0 x1 x2) (sg1 x1 x2) := by
  intro x1 x2 n h24 h120 hl
  obtain ⟨pc, p2, hpc⟩ := pce_ex x2
  exact ⟨RX n, sims_ok n, 0, 0, 0, pc, ini_ok (a := lmt x1) (b := pce x2) (c := lmm x1) (d := pcm x2) rfl rfl h24 h120 hl ((lmm_eq x1).trans hl) hpc ((pcm_eq x2).trans hpc) p2⟩
