/-! code: what an instruction may say -/
section CD
variable {n nk nf op pc : Nat} {σ τ : St}
def Said (n nk : Nat) (σ τ : St) (K x y z : Int32) : Prop := (fMach_isAsSaid (2 * n) σ K x y z = some (0, σ) ∧ fMod_fits τ K x y z = some (0, τ)) ∨ (fMach_isAsSaid (2 * n) σ K x y z = some (1, σ) ∧ fMod_fits τ K x y z = some (1, τ) ∧ WF nk K x y z)
theorem reg_cases (n : Nat) (σ τ : St) (x : Int32) : (fMach_isRegister (2 * n) σ x = some (0, σ) ∧ fMod_below τ x 3 = some (0, τ)) ∨ (fMach_isRegister (2 * n) σ x = some (1, σ) ∧ fMod_below τ x 3 = some (1, τ) ∧ ∃ a, a < 3 ∧ x = nI a) := by
  unfold fMach_isRegister
  rcases m_below τ x (N := 3) (by omega) with ⟨b1, b2⟩ | ⟨b1, b2, b3, a, b4, b5⟩
  · refine Or.inl ⟨?_, b1⟩
    by_cases hc : x < 0
    · rw [if_pos hc]
    · rw [if_neg hc, if_pos (show (3 : Int32) ≤ x from b2.resolve_left hc)]
  · exact Or.inr ⟨by rw [if_neg b2, if_neg (show ¬ (3 : Int32) ≤ x from b3)], b1, a, b4, b5⟩
theorem no10 : ¬ (1 : Int32) = 0 := by decide
theorem no01 : ¬ (0 : Int32) = 1 := by decide
theorem said_0 (h : RK σ τ nk nf) (x y z : Int32) : Said n nk σ τ (nI 0) x y z := by
  have f0 : (nI 0 = 9) = False := eq_false (by decide)
  have f1 : (nI 0 = 1) = False := eq_false (by decide)
  have f2 : (nI 0 = 3) = False := eq_false (by decide)
  have f3 : (nI 0 = 12) = False := eq_false (by decide)
  have f4 : (nI 0 = 13) = False := eq_false (by decide)
  have f5 : (nI 0 = 2) = False := eq_false (by decide)
  have f6 : (nI 0 < 5) = True := eq_true (by decide)
  have f7 : (nI 0 ≤ 8) = True := eq_true (by decide)
  have f8 : (8 < nI 0) = False := eq_false (by decide)
  have f9 : (nI 0 < 9) = True := eq_true (by decide)
  have f10 : (11 < nI 0) = False := eq_false (by decide)
  have g0 : ix (nI 0) 16 := by decide
  have g1 : tX0 (nI 0).toNatClampNeg = 1 := by decide
  have g2 : tX1 (nI 0).toNatClampNeg = 0 := by decide
  have g3 : tX2 (nI 0).toNatClampNeg = -1 := by decide
  have g4 : ((-1 : Int32) = -1) := by decide
  unfold Said
  rcases reg_cases n σ τ x with ⟨p1, p2⟩ | ⟨p1, p2, p3⟩
  · exact Or.inl ⟨by simp only [fMach_isAsSaid, fMach_isAsSaid_J18, fMach_isAsSaid_J36, Option.bind_some, if_pos g0, g1, g2, g3, g4, no10, no01, or_true, true_or, ↓reduceIte, f0, f1, f2, f3, f4, f5, f6, f7, f8, f9, f10, p1], by simp only [fMod_fits, fMod_fits_J16, fMod_fits_J37, fMod_fits_J49, fMod_fits_J54, fMod_fits_J71, fMod_fits_J94, fMod_fits_J129, Option.bind_some, no10, no01, or_true, true_or, ↓reduceIte, f0, f1, f2, f3, f4, f5, f6, f7, f8, f9, f10, p2]⟩
  exact Or.inr ⟨by simp only [fMach_isAsSaid, fMach_isAsSaid_J18, fMach_isAsSaid_J36, Option.bind_some, if_pos g0, g1, g2, g3, g4, no10, no01, or_true, true_or, ↓reduceIte, f0, f1, f2, f3, f4, f5, f6, f7, f8, f9, f10, p1], by simp only [fMod_fits, fMod_fits_J16, fMod_fits_J37, fMod_fits_J49, fMod_fits_J54, fMod_fits_J71, fMod_fits_J94, fMod_fits_J129, Option.bind_some, no10, no01, or_true, true_or, ↓reduceIte, f0, f1, f2, f3, f4, f5, f6, f7, f8, f9, f10, p2], 0, by omega, rfl, fun _ => p3, fun e => absurd e (by omega), fun e => absurd e (by omega), fun e => absurd e (by omega), fun e => absurd e (by omega), fun e => absurd e (by omega)⟩
theorem said_1 (h : RK σ τ nk nf) (x y z : Int32) : Said n nk σ τ (nI 1) x y z := by
  have f0 : (nI 1 = 9) = False := eq_false (by decide)
  have f1 : (nI 1 = 1) = True := eq_true (by decide)
  have f2 : (nI 1 = 3) = False := eq_false (by decide)
  have f3 : (nI 1 = 12) = False := eq_false (by decide)
  have f4 : (nI 1 = 13) = False := eq_false (by decide)
  have f5 : (nI 1 = 2) = False := eq_false (by decide)
  have f6 : (nI 1 < 5) = True := eq_true (by decide)
  have f7 : (nI 1 ≤ 8) = True := eq_true (by decide)
  have f8 : (8 < nI 1) = False := eq_false (by decide)
  have f9 : (nI 1 < 9) = True := eq_true (by decide)
  have f10 : (11 < nI 1) = False := eq_false (by decide)
  have g0 : ix (nI 1) 16 := by decide
  have g1 : tX0 (nI 1).toNatClampNeg = 1 := by decide
  have g2 : tX1 (nI 1).toNatClampNeg = 1 := by decide
  have g3 : tX2 (nI 1).toNatClampNeg = 3 := by decide
  have g4 : ¬ ((3 : Int32) = -1) := by decide
  unfold Said
  rcases reg_cases n σ τ x with ⟨p1, p2⟩ | ⟨p1, p2, p3⟩
  · exact Or.inl ⟨by simp only [fMach_isAsSaid, fMach_isAsSaid_J18, fMach_isAsSaid_J36, Option.bind_some, if_pos g0, g1, g2, g3, g4, no10, no01, or_true, true_or, ↓reduceIte, f0, f1, f2, f3, f4, f5, f6, f7, f8, f9, f10, p1], by simp only [fMod_fits, fMod_fits_J16, fMod_fits_J37, fMod_fits_J49, fMod_fits_J54, fMod_fits_J71, fMod_fits_J94, fMod_fits_J129, Option.bind_some, no10, no01, or_true, true_or, ↓reduceIte, f0, f1, f2, f3, f4, f5, f6, f7, f8, f9, f10, p2]⟩
  rcases reg_cases n σ τ y with ⟨q1, q2⟩ | ⟨q1, q2, q3⟩
  · exact Or.inl ⟨by simp only [fMach_isAsSaid, fMach_isAsSaid_J18, fMach_isAsSaid_J36, Option.bind_some, if_pos g0, g1, g2, g3, g4, no10, no01, or_true, true_or, ↓reduceIte, f0, f1, f2, f3, f4, f5, f6, f7, f8, f9, f10, p1, q1], by simp only [fMod_fits, fMod_fits_J16, fMod_fits_J37, fMod_fits_J49, fMod_fits_J54, fMod_fits_J71, fMod_fits_J94, fMod_fits_J129, Option.bind_some, no10, no01, or_true, true_or, ↓reduceIte, f0, f1, f2, f3, f4, f5, f6, f7, f8, f9, f10, p2, q2]⟩
  rcases m_below τ z (N := 3) (by omega) with ⟨r1, r2⟩ | ⟨r1, r2, r3, k, k1, k2⟩
  · have r1' : fMod_below τ z 3 = some (0, τ) := r1
    by_cases hc : z < 0
    · exact Or.inl ⟨by simp only [fMach_isAsSaid, fMach_isAsSaid_J18, fMach_isAsSaid_J36, Option.bind_some, if_pos g0, g1, g2, g3, g4, no10, no01, or_true, true_or, ↓reduceIte, f0, f1, f2, f3, f4, f5, f6, f7, f8, f9, f10, p1, q1, hc], by simp only [fMod_fits, fMod_fits_J16, fMod_fits_J37, fMod_fits_J49, fMod_fits_J54, fMod_fits_J71, fMod_fits_J94, fMod_fits_J129, Option.bind_some, no10, no01, or_true, true_or, ↓reduceIte, f0, f1, f2, f3, f4, f5, f6, f7, f8, f9, f10, p2, q2, r1']⟩
    · have hc2 : (3 : Int32) ≤ z := r2.resolve_left hc
      exact Or.inl ⟨by simp only [fMach_isAsSaid, fMach_isAsSaid_J18, fMach_isAsSaid_J36, Option.bind_some, if_pos g0, g1, g2, g3, g4, no10, no01, or_true, true_or, ↓reduceIte, f0, f1, f2, f3, f4, f5, f6, f7, f8, f9, f10, p1, q1, hc, hc2], by simp only [fMod_fits, fMod_fits_J16, fMod_fits_J37, fMod_fits_J49, fMod_fits_J54, fMod_fits_J71, fMod_fits_J94, fMod_fits_J129, Option.bind_some, no10, no01, or_true, true_or, ↓reduceIte, f0, f1, f2, f3, f4, f5, f6, f7, f8, f9, f10, p2, q2, r1']⟩
  have r1' : fMod_below τ z 3 = some (1, τ) := r1
  have r3' : ¬ (3 : Int32) ≤ z := r3
  exact Or.inr ⟨by simp only [fMach_isAsSaid, fMach_isAsSaid_J18, fMach_isAsSaid_J36, Option.bind_some, if_pos g0, g1, g2, g3, g4, no10, no01, or_true, true_or, ↓reduceIte, f0, f1, f2, f3, f4, f5, f6, f7, f8, f9, f10, p1, q1, r2, r3'], by simp only [fMod_fits, fMod_fits_J16, fMod_fits_J37, fMod_fits_J49, fMod_fits_J54, fMod_fits_J71, fMod_fits_J94, fMod_fits_J129, Option.bind_some, no10, no01, or_true, true_or, ↓reduceIte, f0, f1, f2, f3, f4, f5, f6, f7, f8, f9, f10, p2, q2, r1'], 1, by omega, rfl, fun _ => p3, fun _ => q3, fun _ => ⟨k, k1, k2⟩, fun e => absurd e (by omega), fun e => absurd e (by omega), fun e => absurd e (by omega)⟩
theorem said_2 (h : RK σ τ nk nf) (x y z : Int32) : Said n nk σ τ (nI 2) x y z := by
  have f0 : (nI 2 = 9) = False := eq_false (by decide)
  have f1 : (nI 2 = 1) = False := eq_false (by decide)
  have f2 : (nI 2 = 3) = False := eq_false (by decide)
  have f3 : (nI 2 = 12) = False := eq_false (by decide)
  have f4 : (nI 2 = 13) = False := eq_false (by decide)
  have f5 : (nI 2 = 2) = True := eq_true (by decide)
  have f6 : (nI 2 < 5) = True := eq_true (by decide)
  have f7 : (nI 2 ≤ 8) = True := eq_true (by decide)
  have f8 : (8 < nI 2) = False := eq_false (by decide)
  have f9 : (nI 2 < 9) = True := eq_true (by decide)
  have f10 : (11 < nI 2) = False := eq_false (by decide)
  have g0 : ix (nI 2) 16 := by decide
  have g1 : tX0 (nI 2).toNatClampNeg = 1 := by decide
  have g2 : tX1 (nI 2).toNatClampNeg = 0 := by decide
  have g3 : tX2 (nI 2).toNatClampNeg = 4 := by decide
  have g4 : ¬ ((4 : Int32) = -1) := by decide
  unfold Said
  rcases reg_cases n σ τ x with ⟨p1, p2⟩ | ⟨p1, p2, p3⟩
  · exact Or.inl ⟨by simp only [fMach_isAsSaid, fMach_isAsSaid_J18, fMach_isAsSaid_J36, Option.bind_some, if_pos g0, g1, g2, g3, g4, no10, no01, or_true, true_or, ↓reduceIte, f0, f1, f2, f3, f4, f5, f6, f7, f8, f9, f10, p1], by simp only [fMod_fits, fMod_fits_J16, fMod_fits_J37, fMod_fits_J49, fMod_fits_J54, fMod_fits_J71, fMod_fits_J94, fMod_fits_J129, Option.bind_some, no10, no01, or_true, true_or, ↓reduceIte, f0, f1, f2, f3, f4, f5, f6, f7, f8, f9, f10, p2]⟩
  rcases x_has (n := n) h z with ⟨r1, r2, -⟩ | ⟨k, k1, k2, r1, r2⟩
  · exact Or.inl ⟨by simp only [fMach_isAsSaid, fMach_isAsSaid_J18, fMach_isAsSaid_J36, Option.bind_some, if_pos g0, g1, g2, g3, g4, no10, no01, or_true, true_or, ↓reduceIte, f0, f1, f2, f3, f4, f5, f6, f7, f8, f9, f10, p1, r1], by simp only [fMod_fits, fMod_fits_J16, fMod_fits_J37, fMod_fits_J49, fMod_fits_J54, fMod_fits_J71, fMod_fits_J94, fMod_fits_J129, Option.bind_some, no10, no01, or_true, true_or, ↓reduceIte, f0, f1, f2, f3, f4, f5, f6, f7, f8, f9, f10, p2, r2]⟩
  exact Or.inr ⟨by simp only [fMach_isAsSaid, fMach_isAsSaid_J18, fMach_isAsSaid_J36, Option.bind_some, if_pos g0, g1, g2, g3, g4, no10, no01, or_true, true_or, ↓reduceIte, f0, f1, f2, f3, f4, f5, f6, f7, f8, f9, f10, p1, r1], by simp only [fMod_fits, fMod_fits_J16, fMod_fits_J37, fMod_fits_J49, fMod_fits_J54, fMod_fits_J71, fMod_fits_J94, fMod_fits_J129, Option.bind_some, no10, no01, or_true, true_or, ↓reduceIte, f0, f1, f2, f3, f4, f5, f6, f7, f8, f9, f10, p2, r2], 2, by omega, rfl, fun _ => p3, fun e => absurd e (by omega), fun e => absurd e (by omega), fun _ => ⟨k, k1, k2⟩, fun e => absurd e (by omega), fun e => absurd e (by omega)⟩
theorem said_3 (h : RK σ τ nk nf) (x y z : Int32) : Said n nk σ τ (nI 3) x y z := by
  have f0 : (nI 3 = 9) = False := eq_false (by decide)
  have f1 : (nI 3 = 1) = False := eq_false (by decide)
  have f2 : (nI 3 = 3) = True := eq_true (by decide)
  have f3 : (nI 3 = 12) = False := eq_false (by decide)
  have f4 : (nI 3 = 13) = False := eq_false (by decide)
  have f5 : (nI 3 = 2) = False := eq_false (by decide)
  have f6 : (nI 3 < 5) = True := eq_true (by decide)
  have f7 : (nI 3 ≤ 8) = True := eq_true (by decide)
  have f8 : (8 < nI 3) = False := eq_false (by decide)
  have f9 : (nI 3 < 9) = True := eq_true (by decide)
  have f10 : (11 < nI 3) = False := eq_false (by decide)
  have g0 : ix (nI 3) 16 := by decide
  have g1 : tX0 (nI 3).toNatClampNeg = 1 := by decide
  have g2 : tX1 (nI 3).toNatClampNeg = 1 := by decide
  have g3 : tX2 (nI 3).toNatClampNeg = -1 := by decide
  have g4 : ((-1 : Int32) = -1) := by decide
  unfold Said
  rcases reg_cases n σ τ x with ⟨p1, p2⟩ | ⟨p1, p2, p3⟩
  · exact Or.inl ⟨by simp only [fMach_isAsSaid, fMach_isAsSaid_J18, fMach_isAsSaid_J36, Option.bind_some, if_pos g0, g1, g2, g3, g4, no10, no01, or_true, true_or, ↓reduceIte, f0, f1, f2, f3, f4, f5, f6, f7, f8, f9, f10, p1], by simp only [fMod_fits, fMod_fits_J16, fMod_fits_J37, fMod_fits_J49, fMod_fits_J54, fMod_fits_J71, fMod_fits_J94, fMod_fits_J129, Option.bind_some, no10, no01, or_true, true_or, ↓reduceIte, f0, f1, f2, f3, f4, f5, f6, f7, f8, f9, f10, p2]⟩
  rcases reg_cases n σ τ y with ⟨q1, q2⟩ | ⟨q1, q2, q3⟩
  · exact Or.inl ⟨by simp only [fMach_isAsSaid, fMach_isAsSaid_J18, fMach_isAsSaid_J36, Option.bind_some, if_pos g0, g1, g2, g3, g4, no10, no01, or_true, true_or, ↓reduceIte, f0, f1, f2, f3, f4, f5, f6, f7, f8, f9, f10, p1, q1], by simp only [fMod_fits, fMod_fits_J16, fMod_fits_J37, fMod_fits_J49, fMod_fits_J54, fMod_fits_J71, fMod_fits_J94, fMod_fits_J129, Option.bind_some, no10, no01, or_true, true_or, ↓reduceIte, f0, f1, f2, f3, f4, f5, f6, f7, f8, f9, f10, p2, q2]⟩
  exact Or.inr ⟨by simp only [fMach_isAsSaid, fMach_isAsSaid_J18, fMach_isAsSaid_J36, Option.bind_some, if_pos g0, g1, g2, g3, g4, no10, no01, or_true, true_or, ↓reduceIte, f0, f1, f2, f3, f4, f5, f6, f7, f8, f9, f10, p1, q1], by simp only [fMod_fits, fMod_fits_J16, fMod_fits_J37, fMod_fits_J49, fMod_fits_J54, fMod_fits_J71, fMod_fits_J94, fMod_fits_J129, Option.bind_some, no10, no01, or_true, true_or, ↓reduceIte, f0, f1, f2, f3, f4, f5, f6, f7, f8, f9, f10, p2, q2], 3, by omega, rfl, fun _ => p3, fun _ => q3, fun e => absurd e (by omega), fun e => absurd e (by omega), fun e => absurd e (by omega), fun e => absurd e (by omega)⟩
theorem said_4 (h : RK σ τ nk nf) (x y z : Int32) : Said n nk σ τ (nI 4) x y z := by
  have f0 : (nI 4 = 9) = False := eq_false (by decide)
  have f1 : (nI 4 = 1) = False := eq_false (by decide)
  have f2 : (nI 4 = 3) = False := eq_false (by decide)
  have f3 : (nI 4 = 12) = False := eq_false (by decide)
  have f4 : (nI 4 = 13) = False := eq_false (by decide)
  have f5 : (nI 4 = 2) = False := eq_false (by decide)
  have f6 : (nI 4 < 5) = True := eq_true (by decide)
  have f7 : (nI 4 ≤ 8) = True := eq_true (by decide)
  have f8 : (8 < nI 4) = False := eq_false (by decide)
  have f9 : (nI 4 < 9) = True := eq_true (by decide)
  have f10 : (11 < nI 4) = False := eq_false (by decide)
  have g0 : ix (nI 4) 16 := by decide
  have g1 : tX0 (nI 4).toNatClampNeg = 1 := by decide
  have g2 : tX1 (nI 4).toNatClampNeg = 0 := by decide
  have g3 : tX2 (nI 4).toNatClampNeg = -1 := by decide
  have g4 : ((-1 : Int32) = -1) := by decide
  unfold Said
  rcases reg_cases n σ τ x with ⟨p1, p2⟩ | ⟨p1, p2, p3⟩
  · exact Or.inl ⟨by simp only [fMach_isAsSaid, fMach_isAsSaid_J18, fMach_isAsSaid_J36, Option.bind_some, if_pos g0, g1, g2, g3, g4, no10, no01, or_true, true_or, ↓reduceIte, f0, f1, f2, f3, f4, f5, f6, f7, f8, f9, f10, p1], by simp only [fMod_fits, fMod_fits_J16, fMod_fits_J37, fMod_fits_J49, fMod_fits_J54, fMod_fits_J71, fMod_fits_J94, fMod_fits_J129, Option.bind_some, no10, no01, or_true, true_or, ↓reduceIte, f0, f1, f2, f3, f4, f5, f6, f7, f8, f9, f10, p2]⟩
  exact Or.inr ⟨by simp only [fMach_isAsSaid, fMach_isAsSaid_J18, fMach_isAsSaid_J36, Option.bind_some, if_pos g0, g1, g2, g3, g4, no10, no01, or_true, true_or, ↓reduceIte, f0, f1, f2, f3, f4, f5, f6, f7, f8, f9, f10, p1], by simp only [fMod_fits, fMod_fits_J16, fMod_fits_J37, fMod_fits_J49, fMod_fits_J54, fMod_fits_J71, fMod_fits_J94, fMod_fits_J129, Option.bind_some, no10, no01, or_true, true_or, ↓reduceIte, f0, f1, f2, f3, f4, f5, f6, f7, f8, f9, f10, p2], 4, by omega, rfl, fun _ => p3, fun e => absurd e (by omega), fun e => absurd e (by omega), fun e => absurd e (by omega), fun e => absurd e (by omega), fun e => absurd e (by omega)⟩
theorem said_5 (h : RK σ τ nk nf) (x y z : Int32) : Said n nk σ τ (nI 5) x y z := by
  have f0 : (nI 5 = 9) = False := eq_false (by decide)
  have f1 : (nI 5 = 1) = False := eq_false (by decide)
  have f2 : (nI 5 = 3) = False := eq_false (by decide)
  have f3 : (nI 5 = 12) = False := eq_false (by decide)
  have f4 : (nI 5 = 13) = False := eq_false (by decide)
  have f5 : (nI 5 = 2) = False := eq_false (by decide)
  have f6 : (nI 5 < 5) = False := eq_false (by decide)
  have f7 : (nI 5 ≤ 8) = True := eq_true (by decide)
  have f8 : (8 < nI 5) = False := eq_false (by decide)
  have f9 : (nI 5 < 9) = True := eq_true (by decide)
  have f10 : (11 < nI 5) = False := eq_false (by decide)
  have g0 : ix (nI 5) 16 := by decide
  have g1 : tX0 (nI 5).toNatClampNeg = 1 := by decide
  have g2 : tX1 (nI 5).toNatClampNeg = 1 := by decide
  have g3 : tX2 (nI 5).toNatClampNeg = 3 := by decide
  have g4 : ¬ ((3 : Int32) = -1) := by decide
  unfold Said
  rcases reg_cases n σ τ x with ⟨p1, p2⟩ | ⟨p1, p2, p3⟩
  · exact Or.inl ⟨by simp only [fMach_isAsSaid, fMach_isAsSaid_J18, fMach_isAsSaid_J36, Option.bind_some, if_pos g0, g1, g2, g3, g4, no10, no01, or_true, true_or, ↓reduceIte, f0, f1, f2, f3, f4, f5, f6, f7, f8, f9, f10, p1], by simp only [fMod_fits, fMod_fits_J16, fMod_fits_J37, fMod_fits_J49, fMod_fits_J54, fMod_fits_J71, fMod_fits_J94, fMod_fits_J129, Option.bind_some, no10, no01, or_true, true_or, ↓reduceIte, f0, f1, f2, f3, f4, f5, f6, f7, f8, f9, f10, p2]⟩
  rcases reg_cases n σ τ y with ⟨q1, q2⟩ | ⟨q1, q2, q3⟩
  · exact Or.inl ⟨by simp only [fMach_isAsSaid, fMach_isAsSaid_J18, fMach_isAsSaid_J36, Option.bind_some, if_pos g0, g1, g2, g3, g4, no10, no01, or_true, true_or, ↓reduceIte, f0, f1, f2, f3, f4, f5, f6, f7, f8, f9, f10, p1, q1], by simp only [fMod_fits, fMod_fits_J16, fMod_fits_J37, fMod_fits_J49, fMod_fits_J54, fMod_fits_J71, fMod_fits_J94, fMod_fits_J129, Option.bind_some, no10, no01, or_true, true_or, ↓reduceIte, f0, f1, f2, f3, f4, f5, f6, f7, f8, f9, f10, p2, q2]⟩
  rcases m_below τ z (N := 3) (by omega) with ⟨r1, r2⟩ | ⟨r1, r2, r3, k, k1, k2⟩
  · have r1' : fMod_below τ z 3 = some (0, τ) := r1
    by_cases hc : z < 0
    · exact Or.inl ⟨by simp only [fMach_isAsSaid, fMach_isAsSaid_J18, fMach_isAsSaid_J36, Option.bind_some, if_pos g0, g1, g2, g3, g4, no10, no01, or_true, true_or, ↓reduceIte, f0, f1, f2, f3, f4, f5, f6, f7, f8, f9, f10, p1, q1, hc], by simp only [fMod_fits, fMod_fits_J16, fMod_fits_J37, fMod_fits_J49, fMod_fits_J54, fMod_fits_J71, fMod_fits_J94, fMod_fits_J129, Option.bind_some, no10, no01, or_true, true_or, ↓reduceIte, f0, f1, f2, f3, f4, f5, f6, f7, f8, f9, f10, p2, q2, r1']⟩
    · have hc2 : (3 : Int32) ≤ z := r2.resolve_left hc
      exact Or.inl ⟨by simp only [fMach_isAsSaid, fMach_isAsSaid_J18, fMach_isAsSaid_J36, Option.bind_some, if_pos g0, g1, g2, g3, g4, no10, no01, or_true, true_or, ↓reduceIte, f0, f1, f2, f3, f4, f5, f6, f7, f8, f9, f10, p1, q1, hc, hc2], by simp only [fMod_fits, fMod_fits_J16, fMod_fits_J37, fMod_fits_J49, fMod_fits_J54, fMod_fits_J71, fMod_fits_J94, fMod_fits_J129, Option.bind_some, no10, no01, or_true, true_or, ↓reduceIte, f0, f1, f2, f3, f4, f5, f6, f7, f8, f9, f10, p2, q2, r1']⟩
  have r1' : fMod_below τ z 3 = some (1, τ) := r1
  have r3' : ¬ (3 : Int32) ≤ z := r3
  exact Or.inr ⟨by simp only [fMach_isAsSaid, fMach_isAsSaid_J18, fMach_isAsSaid_J36, Option.bind_some, if_pos g0, g1, g2, g3, g4, no10, no01, or_true, true_or, ↓reduceIte, f0, f1, f2, f3, f4, f5, f6, f7, f8, f9, f10, p1, q1, r2, r3'], by simp only [fMod_fits, fMod_fits_J16, fMod_fits_J37, fMod_fits_J49, fMod_fits_J54, fMod_fits_J71, fMod_fits_J94, fMod_fits_J129, Option.bind_some, no10, no01, or_true, true_or, ↓reduceIte, f0, f1, f2, f3, f4, f5, f6, f7, f8, f9, f10, p2, q2, r1'], 5, by omega, rfl, fun _ => p3, fun _ => q3, fun _ => ⟨k, k1, k2⟩, fun e => absurd e (by omega), fun e => absurd e (by omega), fun e => absurd e (by omega)⟩
theorem said_6 (h : RK σ τ nk nf) (x y z : Int32) : Said n nk σ τ (nI 6) x y z := by
  have f0 : (nI 6 = 9) = False := eq_false (by decide)
  have f1 : (nI 6 = 1) = False := eq_false (by decide)
  have f2 : (nI 6 = 3) = False := eq_false (by decide)
  have f3 : (nI 6 = 12) = False := eq_false (by decide)
  have f4 : (nI 6 = 13) = False := eq_false (by decide)
  have f5 : (nI 6 = 2) = False := eq_false (by decide)
  have f6 : (nI 6 < 5) = False := eq_false (by decide)
  have f7 : (nI 6 ≤ 8) = True := eq_true (by decide)
  have f8 : (8 < nI 6) = False := eq_false (by decide)
  have f9 : (nI 6 < 9) = True := eq_true (by decide)
  have f10 : (11 < nI 6) = False := eq_false (by decide)
  have g0 : ix (nI 6) 16 := by decide
  have g1 : tX0 (nI 6).toNatClampNeg = 1 := by decide
  have g2 : tX1 (nI 6).toNatClampNeg = 1 := by decide
  have g3 : tX2 (nI 6).toNatClampNeg = 3 := by decide
  have g4 : ¬ ((3 : Int32) = -1) := by decide
  unfold Said
  rcases reg_cases n σ τ x with ⟨p1, p2⟩ | ⟨p1, p2, p3⟩
  · exact Or.inl ⟨by simp only [fMach_isAsSaid, fMach_isAsSaid_J18, fMach_isAsSaid_J36, Option.bind_some, if_pos g0, g1, g2, g3, g4, no10, no01, or_true, true_or, ↓reduceIte, f0, f1, f2, f3, f4, f5, f6, f7, f8, f9, f10, p1], by simp only [fMod_fits, fMod_fits_J16, fMod_fits_J37, fMod_fits_J49, fMod_fits_J54, fMod_fits_J71, fMod_fits_J94, fMod_fits_J129, Option.bind_some, no10, no01, or_true, true_or, ↓reduceIte, f0, f1, f2, f3, f4, f5, f6, f7, f8, f9, f10, p2]⟩
  rcases reg_cases n σ τ y with ⟨q1, q2⟩ | ⟨q1, q2, q3⟩
  · exact Or.inl ⟨by simp only [fMach_isAsSaid, fMach_isAsSaid_J18, fMach_isAsSaid_J36, Option.bind_some, if_pos g0, g1, g2, g3, g4, no10, no01, or_true, true_or, ↓reduceIte, f0, f1, f2, f3, f4, f5, f6, f7, f8, f9, f10, p1, q1], by simp only [fMod_fits, fMod_fits_J16, fMod_fits_J37, fMod_fits_J49, fMod_fits_J54, fMod_fits_J71, fMod_fits_J94, fMod_fits_J129, Option.bind_some, no10, no01, or_true, true_or, ↓reduceIte, f0, f1, f2, f3, f4, f5, f6, f7, f8, f9, f10, p2, q2]⟩
  rcases m_below τ z (N := 3) (by omega) with ⟨r1, r2⟩ | ⟨r1, r2, r3, k, k1, k2⟩
  · have r1' : fMod_below τ z 3 = some (0, τ) := r1
    by_cases hc : z < 0
    · exact Or.inl ⟨by simp only [fMach_isAsSaid, fMach_isAsSaid_J18, fMach_isAsSaid_J36, Option.bind_some, if_pos g0, g1, g2, g3, g4, no10, no01, or_true, true_or, ↓reduceIte, f0, f1, f2, f3, f4, f5, f6, f7, f8, f9, f10, p1, q1, hc], by simp only [fMod_fits, fMod_fits_J16, fMod_fits_J37, fMod_fits_J49, fMod_fits_J54, fMod_fits_J71, fMod_fits_J94, fMod_fits_J129, Option.bind_some, no10, no01, or_true, true_or, ↓reduceIte, f0, f1, f2, f3, f4, f5, f6, f7, f8, f9, f10, p2, q2, r1']⟩
    · have hc2 : (3 : Int32) ≤ z := r2.resolve_left hc
      exact Or.inl ⟨by simp only [fMach_isAsSaid, fMach_isAsSaid_J18, fMach_isAsSaid_J36, Option.bind_some, if_pos g0, g1, g2, g3, g4, no10, no01, or_true, true_or, ↓reduceIte, f0, f1, f2, f3, f4, f5, f6, f7, f8, f9, f10, p1, q1, hc, hc2], by simp only [fMod_fits, fMod_fits_J16, fMod_fits_J37, fMod_fits_J49, fMod_fits_J54, fMod_fits_J71, fMod_fits_J94, fMod_fits_J129, Option.bind_some, no10, no01, or_true, true_or, ↓reduceIte, f0, f1, f2, f3, f4, f5, f6, f7, f8, f9, f10, p2, q2, r1']⟩
  have r1' : fMod_below τ z 3 = some (1, τ) := r1
  have r3' : ¬ (3 : Int32) ≤ z := r3
  exact Or.inr ⟨by simp only [fMach_isAsSaid, fMach_isAsSaid_J18, fMach_isAsSaid_J36, Option.bind_some, if_pos g0, g1, g2, g3, g4, no10, no01, or_true, true_or, ↓reduceIte, f0, f1, f2, f3, f4, f5, f6, f7, f8, f9, f10, p1, q1, r2, r3'], by simp only [fMod_fits, fMod_fits_J16, fMod_fits_J37, fMod_fits_J49, fMod_fits_J54, fMod_fits_J71, fMod_fits_J94, fMod_fits_J129, Option.bind_some, no10, no01, or_true, true_or, ↓reduceIte, f0, f1, f2, f3, f4, f5, f6, f7, f8, f9, f10, p2, q2, r1'], 6, by omega, rfl, fun _ => p3, fun _ => q3, fun _ => ⟨k, k1, k2⟩, fun e => absurd e (by omega), fun e => absurd e (by omega), fun e => absurd e (by omega)⟩
theorem said_7 (h : RK σ τ nk nf) (x y z : Int32) : Said n nk σ τ (nI 7) x y z := by
  have f0 : (nI 7 = 9) = False := eq_false (by decide)
  have f1 : (nI 7 = 1) = False := eq_false (by decide)
  have f2 : (nI 7 = 3) = False := eq_false (by decide)
  have f3 : (nI 7 = 12) = False := eq_false (by decide)
  have f4 : (nI 7 = 13) = False := eq_false (by decide)
  have f5 : (nI 7 = 2) = False := eq_false (by decide)
  have f6 : (nI 7 < 5) = False := eq_false (by decide)
  have f7 : (nI 7 ≤ 8) = True := eq_true (by decide)
  have f8 : (8 < nI 7) = False := eq_false (by decide)
  have f9 : (nI 7 < 9) = True := eq_true (by decide)
  have f10 : (11 < nI 7) = False := eq_false (by decide)
  have g0 : ix (nI 7) 16 := by decide
  have g1 : tX0 (nI 7).toNatClampNeg = 1 := by decide
  have g2 : tX1 (nI 7).toNatClampNeg = 1 := by decide
  have g3 : tX2 (nI 7).toNatClampNeg = 3 := by decide
  have g4 : ¬ ((3 : Int32) = -1) := by decide
  unfold Said
  rcases reg_cases n σ τ x with ⟨p1, p2⟩ | ⟨p1, p2, p3⟩
  · exact Or.inl ⟨by simp only [fMach_isAsSaid, fMach_isAsSaid_J18, fMach_isAsSaid_J36, Option.bind_some, if_pos g0, g1, g2, g3, g4, no10, no01, or_true, true_or, ↓reduceIte, f0, f1, f2, f3, f4, f5, f6, f7, f8, f9, f10, p1], by simp only [fMod_fits, fMod_fits_J16, fMod_fits_J37, fMod_fits_J49, fMod_fits_J54, fMod_fits_J71, fMod_fits_J94, fMod_fits_J129, Option.bind_some, no10, no01, or_true, true_or, ↓reduceIte, f0, f1, f2, f3, f4, f5, f6, f7, f8, f9, f10, p2]⟩
  rcases reg_cases n σ τ y with ⟨q1, q2⟩ | ⟨q1, q2, q3⟩
  · exact Or.inl ⟨by simp only [fMach_isAsSaid, fMach_isAsSaid_J18, fMach_isAsSaid_J36, Option.bind_some, if_pos g0, g1, g2, g3, g4, no10, no01, or_true, true_or, ↓reduceIte, f0, f1, f2, f3, f4, f5, f6, f7, f8, f9, f10, p1, q1], by simp only [fMod_fits, fMod_fits_J16, fMod_fits_J37, fMod_fits_J49, fMod_fits_J54, fMod_fits_J71, fMod_fits_J94, fMod_fits_J129, Option.bind_some, no10, no01, or_true, true_or, ↓reduceIte, f0, f1, f2, f3, f4, f5, f6, f7, f8, f9, f10, p2, q2]⟩
  rcases m_below τ z (N := 3) (by omega) with ⟨r1, r2⟩ | ⟨r1, r2, r3, k, k1, k2⟩
  · have r1' : fMod_below τ z 3 = some (0, τ) := r1
    by_cases hc : z < 0
    · exact Or.inl ⟨by simp only [fMach_isAsSaid, fMach_isAsSaid_J18, fMach_isAsSaid_J36, Option.bind_some, if_pos g0, g1, g2, g3, g4, no10, no01, or_true, true_or, ↓reduceIte, f0, f1, f2, f3, f4, f5, f6, f7, f8, f9, f10, p1, q1, hc], by simp only [fMod_fits, fMod_fits_J16, fMod_fits_J37, fMod_fits_J49, fMod_fits_J54, fMod_fits_J71, fMod_fits_J94, fMod_fits_J129, Option.bind_some, no10, no01, or_true, true_or, ↓reduceIte, f0, f1, f2, f3, f4, f5, f6, f7, f8, f9, f10, p2, q2, r1']⟩
    · have hc2 : (3 : Int32) ≤ z := r2.resolve_left hc
      exact Or.inl ⟨by simp only [fMach_isAsSaid, fMach_isAsSaid_J18, fMach_isAsSaid_J36, Option.bind_some, if_pos g0, g1, g2, g3, g4, no10, no01, or_true, true_or, ↓reduceIte, f0, f1, f2, f3, f4, f5, f6, f7, f8, f9, f10, p1, q1, hc, hc2], by simp only [fMod_fits, fMod_fits_J16, fMod_fits_J37, fMod_fits_J49, fMod_fits_J54, fMod_fits_J71, fMod_fits_J94, fMod_fits_J129, Option.bind_some, no10, no01, or_true, true_or, ↓reduceIte, f0, f1, f2, f3, f4, f5, f6, f7, f8, f9, f10, p2, q2, r1']⟩
  have r1' : fMod_below τ z 3 = some (1, τ) := r1
  have r3' : ¬ (3 : Int32) ≤ z := r3
  exact Or.inr ⟨by simp only [fMach_isAsSaid, fMach_isAsSaid_J18, fMach_isAsSaid_J36, Option.bind_some, if_pos g0, g1, g2, g3, g4, no10, no01, or_true, true_or, ↓reduceIte, f0, f1, f2, f3, f4, f5, f6, f7, f8, f9, f10, p1, q1, r2, r3'], by simp only [fMod_fits, fMod_fits_J16, fMod_fits_J37, fMod_fits_J49, fMod_fits_J54, fMod_fits_J71, fMod_fits_J94, fMod_fits_J129, Option.bind_some, no10, no01, or_true, true_or, ↓reduceIte, f0, f1, f2, f3, f4, f5, f6, f7, f8, f9, f10, p2, q2, r1'], 7, by omega, rfl, fun _ => p3, fun _ => q3, fun _ => ⟨k, k1, k2⟩, fun e => absurd e (by omega), fun e => absurd e (by omega), fun e => absurd e (by omega)⟩
theorem said_8 (h : RK σ τ nk nf) (x y z : Int32) : Said n nk σ τ (nI 8) x y z := by
  have f0 : (nI 8 = 9) = False := eq_false (by decide)
  have f1 : (nI 8 = 1) = False := eq_false (by decide)
  have f2 : (nI 8 = 3) = False := eq_false (by decide)
  have f3 : (nI 8 = 12) = False := eq_false (by decide)
  have f4 : (nI 8 = 13) = False := eq_false (by decide)
  have f5 : (nI 8 = 2) = False := eq_false (by decide)
  have f6 : (nI 8 < 5) = False := eq_false (by decide)
  have f7 : (nI 8 ≤ 8) = True := eq_true (by decide)
  have f8 : (8 < nI 8) = False := eq_false (by decide)
  have f9 : (nI 8 < 9) = True := eq_true (by decide)
  have f10 : (11 < nI 8) = False := eq_false (by decide)
  have g0 : ix (nI 8) 16 := by decide
  have g1 : tX0 (nI 8).toNatClampNeg = 1 := by decide
  have g2 : tX1 (nI 8).toNatClampNeg = 1 := by decide
  have g3 : tX2 (nI 8).toNatClampNeg = 3 := by decide
  have g4 : ¬ ((3 : Int32) = -1) := by decide
  unfold Said
  rcases reg_cases n σ τ x with ⟨p1, p2⟩ | ⟨p1, p2, p3⟩
  · exact Or.inl ⟨by simp only [fMach_isAsSaid, fMach_isAsSaid_J18, fMach_isAsSaid_J36, Option.bind_some, if_pos g0, g1, g2, g3, g4, no10, no01, or_true, true_or, ↓reduceIte, f0, f1, f2, f3, f4, f5, f6, f7, f8, f9, f10, p1], by simp only [fMod_fits, fMod_fits_J16, fMod_fits_J37, fMod_fits_J49, fMod_fits_J54, fMod_fits_J71, fMod_fits_J94, fMod_fits_J129, Option.bind_some, no10, no01, or_true, true_or, ↓reduceIte, f0, f1, f2, f3, f4, f5, f6, f7, f8, f9, f10, p2]⟩
  rcases reg_cases n σ τ y with ⟨q1, q2⟩ | ⟨q1, q2, q3⟩
  · exact Or.inl ⟨by simp only [fMach_isAsSaid, fMach_isAsSaid_J18, fMach_isAsSaid_J36, Option.bind_some, if_pos g0, g1, g2, g3, g4, no10, no01, or_true, true_or, ↓reduceIte, f0, f1, f2, f3, f4, f5, f6, f7, f8, f9, f10, p1, q1], by simp only [fMod_fits, fMod_fits_J16, fMod_fits_J37, fMod_fits_J49, fMod_fits_J54, fMod_fits_J71, fMod_fits_J94, fMod_fits_J129, Option.bind_some, no10, no01, or_true, true_or, ↓reduceIte, f0, f1, f2, f3, f4, f5, f6, f7, f8, f9, f10, p2, q2]⟩
  rcases m_below τ z (N := 3) (by omega) with ⟨r1, r2⟩ | ⟨r1, r2, r3, k, k1, k2⟩
  · have r1' : fMod_below τ z 3 = some (0, τ) := r1
    by_cases hc : z < 0
    · exact Or.inl ⟨by simp only [fMach_isAsSaid, fMach_isAsSaid_J18, fMach_isAsSaid_J36, Option.bind_some, if_pos g0, g1, g2, g3, g4, no10, no01, or_true, true_or, ↓reduceIte, f0, f1, f2, f3, f4, f5, f6, f7, f8, f9, f10, p1, q1, hc], by simp only [fMod_fits, fMod_fits_J16, fMod_fits_J37, fMod_fits_J49, fMod_fits_J54, fMod_fits_J71, fMod_fits_J94, fMod_fits_J129, Option.bind_some, no10, no01, or_true, true_or, ↓reduceIte, f0, f1, f2, f3, f4, f5, f6, f7, f8, f9, f10, p2, q2, r1']⟩
    · have hc2 : (3 : Int32) ≤ z := r2.resolve_left hc
      exact Or.inl ⟨by simp only [fMach_isAsSaid, fMach_isAsSaid_J18, fMach_isAsSaid_J36, Option.bind_some, if_pos g0, g1, g2, g3, g4, no10, no01, or_true, true_or, ↓reduceIte, f0, f1, f2, f3, f4, f5, f6, f7, f8, f9, f10, p1, q1, hc, hc2], by simp only [fMod_fits, fMod_fits_J16, fMod_fits_J37, fMod_fits_J49, fMod_fits_J54, fMod_fits_J71, fMod_fits_J94, fMod_fits_J129, Option.bind_some, no10, no01, or_true, true_or, ↓reduceIte, f0, f1, f2, f3, f4, f5, f6, f7, f8, f9, f10, p2, q2, r1']⟩
  have r1' : fMod_below τ z 3 = some (1, τ) := r1
  have r3' : ¬ (3 : Int32) ≤ z := r3
  exact Or.inr ⟨by simp only [fMach_isAsSaid, fMach_isAsSaid_J18, fMach_isAsSaid_J36, Option.bind_some, if_pos g0, g1, g2, g3, g4, no10, no01, or_true, true_or, ↓reduceIte, f0, f1, f2, f3, f4, f5, f6, f7, f8, f9, f10, p1, q1, r2, r3'], by simp only [fMod_fits, fMod_fits_J16, fMod_fits_J37, fMod_fits_J49, fMod_fits_J54, fMod_fits_J71, fMod_fits_J94, fMod_fits_J129, Option.bind_some, no10, no01, or_true, true_or, ↓reduceIte, f0, f1, f2, f3, f4, f5, f6, f7, f8, f9, f10, p2, q2, r1'], 8, by omega, rfl, fun _ => p3, fun _ => q3, fun _ => ⟨k, k1, k2⟩, fun e => absurd e (by omega), fun e => absurd e (by omega), fun e => absurd e (by omega)⟩
theorem said_9 (h : RK σ τ nk nf) (x y z : Int32) : Said n nk σ τ (nI 9) x y z := by
  have f0 : (nI 9 = 9) = True := eq_true (by decide)
  have f1 : (nI 9 = 1) = False := eq_false (by decide)
  have f2 : (nI 9 = 3) = False := eq_false (by decide)
  have f3 : (nI 9 = 12) = False := eq_false (by decide)
  have f4 : (nI 9 = 13) = False := eq_false (by decide)
  have f5 : (nI 9 = 2) = False := eq_false (by decide)
  have f6 : (nI 9 < 5) = False := eq_false (by decide)
  have f7 : (nI 9 ≤ 8) = False := eq_false (by decide)
  have f8 : (8 < nI 9) = True := eq_true (by decide)
  have f9 : (nI 9 < 9) = False := eq_false (by decide)
  have f10 : (11 < nI 9) = False := eq_false (by decide)
  have g0 : ix (nI 9) 16 := by decide
  have g1 : tX0 (nI 9).toNatClampNeg = 0 := by decide
  have g2 : tX1 (nI 9).toNatClampNeg = 0 := by decide
  have g3 : tX2 (nI 9).toNatClampNeg = 12 := by decide
  have g4 : ¬ ((12 : Int32) = -1) := by decide
  unfold Said
  rcases m_below τ z (N := 12) (by omega) with ⟨r1, r2⟩ | ⟨r1, r2, r3, k, k1, k2⟩
  · have r1' : fMod_below τ z 12 = some (0, τ) := r1
    by_cases hc : z < 0
    · exact Or.inl ⟨by simp only [fMach_isAsSaid, fMach_isAsSaid_J18, fMach_isAsSaid_J36, Option.bind_some, if_pos g0, g1, g2, g3, g4, no10, no01, or_true, true_or, ↓reduceIte, f0, f1, f2, f3, f4, f5, f6, f7, f8, f9, f10, hc], by simp only [fMod_fits, fMod_fits_J16, fMod_fits_J37, fMod_fits_J49, fMod_fits_J54, fMod_fits_J71, fMod_fits_J94, fMod_fits_J129, Option.bind_some, no10, no01, or_true, true_or, ↓reduceIte, f0, f1, f2, f3, f4, f5, f6, f7, f8, f9, f10, r1']⟩
    · have hc2 : (12 : Int32) ≤ z := r2.resolve_left hc
      exact Or.inl ⟨by simp only [fMach_isAsSaid, fMach_isAsSaid_J18, fMach_isAsSaid_J36, Option.bind_some, if_pos g0, g1, g2, g3, g4, no10, no01, or_true, true_or, ↓reduceIte, f0, f1, f2, f3, f4, f5, f6, f7, f8, f9, f10, hc, hc2], by simp only [fMod_fits, fMod_fits_J16, fMod_fits_J37, fMod_fits_J49, fMod_fits_J54, fMod_fits_J71, fMod_fits_J94, fMod_fits_J129, Option.bind_some, no10, no01, or_true, true_or, ↓reduceIte, f0, f1, f2, f3, f4, f5, f6, f7, f8, f9, f10, r1']⟩
  have r1' : fMod_below τ z 12 = some (1, τ) := r1
  have r3' : ¬ (12 : Int32) ≤ z := r3
  exact Or.inr ⟨by simp only [fMach_isAsSaid, fMach_isAsSaid_J18, fMach_isAsSaid_J36, Option.bind_some, if_pos g0, g1, g2, g3, g4, no10, no01, or_true, true_or, ↓reduceIte, f0, f1, f2, f3, f4, f5, f6, f7, f8, f9, f10, r2, r3'], by simp only [fMod_fits, fMod_fits_J16, fMod_fits_J37, fMod_fits_J49, fMod_fits_J54, fMod_fits_J71, fMod_fits_J94, fMod_fits_J129, Option.bind_some, no10, no01, or_true, true_or, ↓reduceIte, f0, f1, f2, f3, f4, f5, f6, f7, f8, f9, f10, r1'], 9, by omega, rfl, fun e => absurd rfl e, fun e => absurd e (by omega), fun e => absurd e (by omega), fun e => absurd e (by omega), fun _ => ⟨k, k1, k2⟩, fun e => absurd e (by omega)⟩
theorem said_10 (h : RK σ τ nk nf) (x y z : Int32) : Said n nk σ τ (nI 10) x y z := by
  have f0 : (nI 10 = 9) = False := eq_false (by decide)
  have f1 : (nI 10 = 1) = False := eq_false (by decide)
  have f2 : (nI 10 = 3) = False := eq_false (by decide)
  have f3 : (nI 10 = 12) = False := eq_false (by decide)
  have f4 : (nI 10 = 13) = False := eq_false (by decide)
  have f5 : (nI 10 = 2) = False := eq_false (by decide)
  have f6 : (nI 10 < 5) = False := eq_false (by decide)
  have f7 : (nI 10 ≤ 8) = False := eq_false (by decide)
  have f8 : (8 < nI 10) = True := eq_true (by decide)
  have f9 : (nI 10 < 9) = False := eq_false (by decide)
  have f10 : (11 < nI 10) = False := eq_false (by decide)
  have g0 : ix (nI 10) 16 := by decide
  have g1 : tX0 (nI 10).toNatClampNeg = 1 := by decide
  have g2 : tX1 (nI 10).toNatClampNeg = 0 := by decide
  have g3 : tX2 (nI 10).toNatClampNeg = 12 := by decide
  have g4 : ¬ ((12 : Int32) = -1) := by decide
  unfold Said
  rcases reg_cases n σ τ x with ⟨p1, p2⟩ | ⟨p1, p2, p3⟩
  · exact Or.inl ⟨by simp only [fMach_isAsSaid, fMach_isAsSaid_J18, fMach_isAsSaid_J36, Option.bind_some, if_pos g0, g1, g2, g3, g4, no10, no01, or_true, true_or, ↓reduceIte, f0, f1, f2, f3, f4, f5, f6, f7, f8, f9, f10, p1], by simp only [fMod_fits, fMod_fits_J16, fMod_fits_J37, fMod_fits_J49, fMod_fits_J54, fMod_fits_J71, fMod_fits_J94, fMod_fits_J129, Option.bind_some, no10, no01, or_true, true_or, ↓reduceIte, f0, f1, f2, f3, f4, f5, f6, f7, f8, f9, f10, p2]⟩
  rcases m_below τ z (N := 12) (by omega) with ⟨r1, r2⟩ | ⟨r1, r2, r3, k, k1, k2⟩
  · have r1' : fMod_below τ z 12 = some (0, τ) := r1
    by_cases hc : z < 0
    · exact Or.inl ⟨by simp only [fMach_isAsSaid, fMach_isAsSaid_J18, fMach_isAsSaid_J36, Option.bind_some, if_pos g0, g1, g2, g3, g4, no10, no01, or_true, true_or, ↓reduceIte, f0, f1, f2, f3, f4, f5, f6, f7, f8, f9, f10, p1, hc], by simp only [fMod_fits, fMod_fits_J16, fMod_fits_J37, fMod_fits_J49, fMod_fits_J54, fMod_fits_J71, fMod_fits_J94, fMod_fits_J129, Option.bind_some, no10, no01, or_true, true_or, ↓reduceIte, f0, f1, f2, f3, f4, f5, f6, f7, f8, f9, f10, p2, r1']⟩
    · have hc2 : (12 : Int32) ≤ z := r2.resolve_left hc
      exact Or.inl ⟨by simp only [fMach_isAsSaid, fMach_isAsSaid_J18, fMach_isAsSaid_J36, Option.bind_some, if_pos g0, g1, g2, g3, g4, no10, no01, or_true, true_or, ↓reduceIte, f0, f1, f2, f3, f4, f5, f6, f7, f8, f9, f10, p1, hc, hc2], by simp only [fMod_fits, fMod_fits_J16, fMod_fits_J37, fMod_fits_J49, fMod_fits_J54, fMod_fits_J71, fMod_fits_J94, fMod_fits_J129, Option.bind_some, no10, no01, or_true, true_or, ↓reduceIte, f0, f1, f2, f3, f4, f5, f6, f7, f8, f9, f10, p2, r1']⟩
  have r1' : fMod_below τ z 12 = some (1, τ) := r1
  have r3' : ¬ (12 : Int32) ≤ z := r3
  exact Or.inr ⟨by simp only [fMach_isAsSaid, fMach_isAsSaid_J18, fMach_isAsSaid_J36, Option.bind_some, if_pos g0, g1, g2, g3, g4, no10, no01, or_true, true_or, ↓reduceIte, f0, f1, f2, f3, f4, f5, f6, f7, f8, f9, f10, p1, r2, r3'], by simp only [fMod_fits, fMod_fits_J16, fMod_fits_J37, fMod_fits_J49, fMod_fits_J54, fMod_fits_J71, fMod_fits_J94, fMod_fits_J129, Option.bind_some, no10, no01, or_true, true_or, ↓reduceIte, f0, f1, f2, f3, f4, f5, f6, f7, f8, f9, f10, p2, r1'], 10, by omega, rfl, fun _ => p3, fun e => absurd e (by omega), fun e => absurd e (by omega), fun e => absurd e (by omega), fun _ => ⟨k, k1, k2⟩, fun e => absurd e (by omega)⟩
theorem said_11 (h : RK σ τ nk nf) (x y z : Int32) : Said n nk σ τ (nI 11) x y z := by
  have f0 : (nI 11 = 9) = False := eq_false (by decide)
  have f1 : (nI 11 = 1) = False := eq_false (by decide)
  have f2 : (nI 11 = 3) = False := eq_false (by decide)
  have f3 : (nI 11 = 12) = False := eq_false (by decide)
  have f4 : (nI 11 = 13) = False := eq_false (by decide)
  have f5 : (nI 11 = 2) = False := eq_false (by decide)
  have f6 : (nI 11 < 5) = False := eq_false (by decide)
  have f7 : (nI 11 ≤ 8) = False := eq_false (by decide)
  have f8 : (8 < nI 11) = True := eq_true (by decide)
  have f9 : (nI 11 < 9) = False := eq_false (by decide)
  have f10 : (11 < nI 11) = False := eq_false (by decide)
  have g0 : ix (nI 11) 16 := by decide
  have g1 : tX0 (nI 11).toNatClampNeg = 1 := by decide
  have g2 : tX1 (nI 11).toNatClampNeg = 0 := by decide
  have g3 : tX2 (nI 11).toNatClampNeg = 12 := by decide
  have g4 : ¬ ((12 : Int32) = -1) := by decide
  unfold Said
  rcases reg_cases n σ τ x with ⟨p1, p2⟩ | ⟨p1, p2, p3⟩
  · exact Or.inl ⟨by simp only [fMach_isAsSaid, fMach_isAsSaid_J18, fMach_isAsSaid_J36, Option.bind_some, if_pos g0, g1, g2, g3, g4, no10, no01, or_true, true_or, ↓reduceIte, f0, f1, f2, f3, f4, f5, f6, f7, f8, f9, f10, p1], by simp only [fMod_fits, fMod_fits_J16, fMod_fits_J37, fMod_fits_J49, fMod_fits_J54, fMod_fits_J71, fMod_fits_J94, fMod_fits_J129, Option.bind_some, no10, no01, or_true, true_or, ↓reduceIte, f0, f1, f2, f3, f4, f5, f6, f7, f8, f9, f10, p2]⟩
  rcases m_below τ z (N := 12) (by omega) with ⟨r1, r2⟩ | ⟨r1, r2, r3, k, k1, k2⟩
  · have r1' : fMod_below τ z 12 = some (0, τ) := r1
    by_cases hc : z < 0
    · exact Or.inl ⟨by simp only [fMach_isAsSaid, fMach_isAsSaid_J18, fMach_isAsSaid_J36, Option.bind_some, if_pos g0, g1, g2, g3, g4, no10, no01, or_true, true_or, ↓reduceIte, f0, f1, f2, f3, f4, f5, f6, f7, f8, f9, f10, p1, hc], by simp only [fMod_fits, fMod_fits_J16, fMod_fits_J37, fMod_fits_J49, fMod_fits_J54, fMod_fits_J71, fMod_fits_J94, fMod_fits_J129, Option.bind_some, no10, no01, or_true, true_or, ↓reduceIte, f0, f1, f2, f3, f4, f5, f6, f7, f8, f9, f10, p2, r1']⟩
    · have hc2 : (12 : Int32) ≤ z := r2.resolve_left hc
      exact Or.inl ⟨by simp only [fMach_isAsSaid, fMach_isAsSaid_J18, fMach_isAsSaid_J36, Option.bind_some, if_pos g0, g1, g2, g3, g4, no10, no01, or_true, true_or, ↓reduceIte, f0, f1, f2, f3, f4, f5, f6, f7, f8, f9, f10, p1, hc, hc2], by simp only [fMod_fits, fMod_fits_J16, fMod_fits_J37, fMod_fits_J49, fMod_fits_J54, fMod_fits_J71, fMod_fits_J94, fMod_fits_J129, Option.bind_some, no10, no01, or_true, true_or, ↓reduceIte, f0, f1, f2, f3, f4, f5, f6, f7, f8, f9, f10, p2, r1']⟩
  have r1' : fMod_below τ z 12 = some (1, τ) := r1
  have r3' : ¬ (12 : Int32) ≤ z := r3
  exact Or.inr ⟨by simp only [fMach_isAsSaid, fMach_isAsSaid_J18, fMach_isAsSaid_J36, Option.bind_some, if_pos g0, g1, g2, g3, g4, no10, no01, or_true, true_or, ↓reduceIte, f0, f1, f2, f3, f4, f5, f6, f7, f8, f9, f10, p1, r2, r3'], by simp only [fMod_fits, fMod_fits_J16, fMod_fits_J37, fMod_fits_J49, fMod_fits_J54, fMod_fits_J71, fMod_fits_J94, fMod_fits_J129, Option.bind_some, no10, no01, or_true, true_or, ↓reduceIte, f0, f1, f2, f3, f4, f5, f6, f7, f8, f9, f10, p2, r1'], 11, by omega, rfl, fun _ => p3, fun e => absurd e (by omega), fun e => absurd e (by omega), fun e => absurd e (by omega), fun _ => ⟨k, k1, k2⟩, fun e => absurd e (by omega)⟩
theorem said_12 (h : RK σ τ nk nf) (x y z : Int32) : Said n nk σ τ (nI 12) x y z := by
  have f0 : (nI 12 = 9) = False := eq_false (by decide)
  have f1 : (nI 12 = 1) = False := eq_false (by decide)
  have f2 : (nI 12 = 3) = False := eq_false (by decide)
  have f3 : (nI 12 = 12) = True := eq_true (by decide)
  have f4 : (nI 12 = 13) = False := eq_false (by decide)
  have f5 : (nI 12 = 2) = False := eq_false (by decide)
  have f6 : (nI 12 < 5) = False := eq_false (by decide)
  have f7 : (nI 12 ≤ 8) = False := eq_false (by decide)
  have f8 : (8 < nI 12) = True := eq_true (by decide)
  have f9 : (nI 12 < 9) = False := eq_false (by decide)
  have f10 : (11 < nI 12) = True := eq_true (by decide)
  have g0 : ix (nI 12) 16 := by decide
  have g1 : tX0 (nI 12).toNatClampNeg = 1 := by decide
  have g2 : tX1 (nI 12).toNatClampNeg = 1 := by decide
  have g3 : tX2 (nI 12).toNatClampNeg = 4 := by decide
  have g4 : ¬ ((4 : Int32) = -1) := by decide
  unfold Said
  rcases reg_cases n σ τ x with ⟨p1, p2⟩ | ⟨p1, p2, p3⟩
  · exact Or.inl ⟨by simp only [fMach_isAsSaid, fMach_isAsSaid_J18, fMach_isAsSaid_J36, Option.bind_some, if_pos g0, g1, g2, g3, g4, no10, no01, or_true, true_or, ↓reduceIte, f0, f1, f2, f3, f4, f5, f6, f7, f8, f9, f10, p1], by simp only [fMod_fits, fMod_fits_J16, fMod_fits_J37, fMod_fits_J49, fMod_fits_J54, fMod_fits_J71, fMod_fits_J94, fMod_fits_J129, Option.bind_some, no10, no01, or_true, true_or, ↓reduceIte, f0, f1, f2, f3, f4, f5, f6, f7, f8, f9, f10, p2]⟩
  rcases reg_cases n σ τ y with ⟨q1, q2⟩ | ⟨q1, q2, q3⟩
  · exact Or.inl ⟨by simp only [fMach_isAsSaid, fMach_isAsSaid_J18, fMach_isAsSaid_J36, Option.bind_some, if_pos g0, g1, g2, g3, g4, no10, no01, or_true, true_or, ↓reduceIte, f0, f1, f2, f3, f4, f5, f6, f7, f8, f9, f10, p1, q1], by simp only [fMod_fits, fMod_fits_J16, fMod_fits_J37, fMod_fits_J49, fMod_fits_J54, fMod_fits_J71, fMod_fits_J94, fMod_fits_J129, Option.bind_some, no10, no01, or_true, true_or, ↓reduceIte, f0, f1, f2, f3, f4, f5, f6, f7, f8, f9, f10, p2, q2]⟩
  rcases m_below τ z (N := 4) (by omega) with ⟨r1, r2⟩ | ⟨r1, r2, r3, k, k1, k2⟩
  · have r1' : fMod_below τ z 4 = some (0, τ) := r1
    by_cases hc : z < 0
    · exact Or.inl ⟨by simp only [fMach_isAsSaid, fMach_isAsSaid_J18, fMach_isAsSaid_J36, Option.bind_some, if_pos g0, g1, g2, g3, g4, no10, no01, or_true, true_or, ↓reduceIte, f0, f1, f2, f3, f4, f5, f6, f7, f8, f9, f10, p1, q1, hc], by simp only [fMod_fits, fMod_fits_J16, fMod_fits_J37, fMod_fits_J49, fMod_fits_J54, fMod_fits_J71, fMod_fits_J94, fMod_fits_J129, Option.bind_some, no10, no01, or_true, true_or, ↓reduceIte, f0, f1, f2, f3, f4, f5, f6, f7, f8, f9, f10, p2, q2, r1']⟩
    · have hc2 : (4 : Int32) ≤ z := r2.resolve_left hc
      exact Or.inl ⟨by simp only [fMach_isAsSaid, fMach_isAsSaid_J18, fMach_isAsSaid_J36, Option.bind_some, if_pos g0, g1, g2, g3, g4, no10, no01, or_true, true_or, ↓reduceIte, f0, f1, f2, f3, f4, f5, f6, f7, f8, f9, f10, p1, q1, hc, hc2], by simp only [fMod_fits, fMod_fits_J16, fMod_fits_J37, fMod_fits_J49, fMod_fits_J54, fMod_fits_J71, fMod_fits_J94, fMod_fits_J129, Option.bind_some, no10, no01, or_true, true_or, ↓reduceIte, f0, f1, f2, f3, f4, f5, f6, f7, f8, f9, f10, p2, q2, r1']⟩
  have r1' : fMod_below τ z 4 = some (1, τ) := r1
  have r3' : ¬ (4 : Int32) ≤ z := r3
  exact Or.inr ⟨by simp only [fMach_isAsSaid, fMach_isAsSaid_J18, fMach_isAsSaid_J36, Option.bind_some, if_pos g0, g1, g2, g3, g4, no10, no01, or_true, true_or, ↓reduceIte, f0, f1, f2, f3, f4, f5, f6, f7, f8, f9, f10, p1, q1, r2, r3'], by simp only [fMod_fits, fMod_fits_J16, fMod_fits_J37, fMod_fits_J49, fMod_fits_J54, fMod_fits_J71, fMod_fits_J94, fMod_fits_J129, Option.bind_some, no10, no01, or_true, true_or, ↓reduceIte, f0, f1, f2, f3, f4, f5, f6, f7, f8, f9, f10, p2, q2, r1'], 12, by omega, rfl, fun _ => p3, fun _ => q3, fun e => absurd e (by omega), fun e => absurd e (by omega), fun e => absurd e (by omega), fun _ => ⟨k, k1, k2⟩⟩
theorem said_13 (h : RK σ τ nk nf) (x y z : Int32) : Said n nk σ τ (nI 13) x y z := by
  have f0 : (nI 13 = 9) = False := eq_false (by decide)
  have f1 : (nI 13 = 1) = False := eq_false (by decide)
  have f2 : (nI 13 = 3) = False := eq_false (by decide)
  have f3 : (nI 13 = 12) = False := eq_false (by decide)
  have f4 : (nI 13 = 13) = True := eq_true (by decide)
  have f5 : (nI 13 = 2) = False := eq_false (by decide)
  have f6 : (nI 13 < 5) = False := eq_false (by decide)
  have f7 : (nI 13 ≤ 8) = False := eq_false (by decide)
  have f8 : (8 < nI 13) = True := eq_true (by decide)
  have f9 : (nI 13 < 9) = False := eq_false (by decide)
  have f10 : (11 < nI 13) = True := eq_true (by decide)
  have g0 : ix (nI 13) 16 := by decide
  have g1 : tX0 (nI 13).toNatClampNeg = 1 := by decide
  have g2 : tX1 (nI 13).toNatClampNeg = 1 := by decide
  have g3 : tX2 (nI 13).toNatClampNeg = -1 := by decide
  have g4 : ((-1 : Int32) = -1) := by decide
  unfold Said
  rcases reg_cases n σ τ x with ⟨p1, p2⟩ | ⟨p1, p2, p3⟩
  · exact Or.inl ⟨by simp only [fMach_isAsSaid, fMach_isAsSaid_J18, fMach_isAsSaid_J36, Option.bind_some, if_pos g0, g1, g2, g3, g4, no10, no01, or_true, true_or, ↓reduceIte, f0, f1, f2, f3, f4, f5, f6, f7, f8, f9, f10, p1], by simp only [fMod_fits, fMod_fits_J16, fMod_fits_J37, fMod_fits_J49, fMod_fits_J54, fMod_fits_J71, fMod_fits_J94, fMod_fits_J129, Option.bind_some, no10, no01, or_true, true_or, ↓reduceIte, f0, f1, f2, f3, f4, f5, f6, f7, f8, f9, f10, p2]⟩
  rcases reg_cases n σ τ y with ⟨q1, q2⟩ | ⟨q1, q2, q3⟩
  · exact Or.inl ⟨by simp only [fMach_isAsSaid, fMach_isAsSaid_J18, fMach_isAsSaid_J36, Option.bind_some, if_pos g0, g1, g2, g3, g4, no10, no01, or_true, true_or, ↓reduceIte, f0, f1, f2, f3, f4, f5, f6, f7, f8, f9, f10, p1, q1], by simp only [fMod_fits, fMod_fits_J16, fMod_fits_J37, fMod_fits_J49, fMod_fits_J54, fMod_fits_J71, fMod_fits_J94, fMod_fits_J129, Option.bind_some, no10, no01, or_true, true_or, ↓reduceIte, f0, f1, f2, f3, f4, f5, f6, f7, f8, f9, f10, p2, q2]⟩
  exact Or.inr ⟨by simp only [fMach_isAsSaid, fMach_isAsSaid_J18, fMach_isAsSaid_J36, Option.bind_some, if_pos g0, g1, g2, g3, g4, no10, no01, or_true, true_or, ↓reduceIte, f0, f1, f2, f3, f4, f5, f6, f7, f8, f9, f10, p1, q1], by simp only [fMod_fits, fMod_fits_J16, fMod_fits_J37, fMod_fits_J49, fMod_fits_J54, fMod_fits_J71, fMod_fits_J94, fMod_fits_J129, Option.bind_some, no10, no01, or_true, true_or, ↓reduceIte, f0, f1, f2, f3, f4, f5, f6, f7, f8, f9, f10, p2, q2], 13, by omega, rfl, fun _ => p3, fun _ => q3, fun e => absurd e (by omega), fun e => absurd e (by omega), fun e => absurd e (by omega), fun e => absurd e (by omega)⟩
theorem said_14 (h : RK σ τ nk nf) (x y z : Int32) : Said n nk σ τ (nI 14) x y z := by
  have f0 : (nI 14 = 9) = False := eq_false (by decide)
  have f1 : (nI 14 = 1) = False := eq_false (by decide)
  have f2 : (nI 14 = 3) = False := eq_false (by decide)
  have f3 : (nI 14 = 12) = False := eq_false (by decide)
  have f4 : (nI 14 = 13) = False := eq_false (by decide)
  have f5 : (nI 14 = 2) = False := eq_false (by decide)
  have f6 : (nI 14 < 5) = False := eq_false (by decide)
  have f7 : (nI 14 ≤ 8) = False := eq_false (by decide)
  have f8 : (8 < nI 14) = True := eq_true (by decide)
  have f9 : (nI 14 < 9) = False := eq_false (by decide)
  have f10 : (11 < nI 14) = True := eq_true (by decide)
  have g0 : ix (nI 14) 16 := by decide
  have g1 : tX0 (nI 14).toNatClampNeg = 1 := by decide
  have g2 : tX1 (nI 14).toNatClampNeg = 0 := by decide
  have g3 : tX2 (nI 14).toNatClampNeg = -1 := by decide
  have g4 : ((-1 : Int32) = -1) := by decide
  unfold Said
  rcases reg_cases n σ τ x with ⟨p1, p2⟩ | ⟨p1, p2, p3⟩
  · exact Or.inl ⟨by simp only [fMach_isAsSaid, fMach_isAsSaid_J18, fMach_isAsSaid_J36, Option.bind_some, if_pos g0, g1, g2, g3, g4, no10, no01, or_true, true_or, ↓reduceIte, f0, f1, f2, f3, f4, f5, f6, f7, f8, f9, f10, p1], by simp only [fMod_fits, fMod_fits_J16, fMod_fits_J37, fMod_fits_J49, fMod_fits_J54, fMod_fits_J71, fMod_fits_J94, fMod_fits_J129, Option.bind_some, no10, no01, or_true, true_or, ↓reduceIte, f0, f1, f2, f3, f4, f5, f6, f7, f8, f9, f10, p2]⟩
  exact Or.inr ⟨by simp only [fMach_isAsSaid, fMach_isAsSaid_J18, fMach_isAsSaid_J36, Option.bind_some, if_pos g0, g1, g2, g3, g4, no10, no01, or_true, true_or, ↓reduceIte, f0, f1, f2, f3, f4, f5, f6, f7, f8, f9, f10, p1], by simp only [fMod_fits, fMod_fits_J16, fMod_fits_J37, fMod_fits_J49, fMod_fits_J54, fMod_fits_J71, fMod_fits_J94, fMod_fits_J129, Option.bind_some, no10, no01, or_true, true_or, ↓reduceIte, f0, f1, f2, f3, f4, f5, f6, f7, f8, f9, f10, p2], 14, by omega, rfl, fun _ => p3, fun e => absurd e (by omega), fun e => absurd e (by omega), fun e => absurd e (by omega), fun e => absurd e (by omega), fun e => absurd e (by omega)⟩
theorem said_15 (h : RK σ τ nk nf) (x y z : Int32) : Said n nk σ τ (nI 15) x y z := by
  have f0 : (nI 15 = 9) = False := eq_false (by decide)
  have f1 : (nI 15 = 1) = False := eq_false (by decide)
  have f2 : (nI 15 = 3) = False := eq_false (by decide)
  have f3 : (nI 15 = 12) = False := eq_false (by decide)
  have f4 : (nI 15 = 13) = False := eq_false (by decide)
  have f5 : (nI 15 = 2) = False := eq_false (by decide)
  have f6 : (nI 15 < 5) = False := eq_false (by decide)
  have f7 : (nI 15 ≤ 8) = False := eq_false (by decide)
  have f8 : (8 < nI 15) = True := eq_true (by decide)
  have f9 : (nI 15 < 9) = False := eq_false (by decide)
  have f10 : (11 < nI 15) = True := eq_true (by decide)
  have g0 : ix (nI 15) 16 := by decide
  have g1 : tX0 (nI 15).toNatClampNeg = 1 := by decide
  have g2 : tX1 (nI 15).toNatClampNeg = 0 := by decide
  have g3 : tX2 (nI 15).toNatClampNeg = -1 := by decide
  have g4 : ((-1 : Int32) = -1) := by decide
  unfold Said
  rcases reg_cases n σ τ x with ⟨p1, p2⟩ | ⟨p1, p2, p3⟩
  · exact Or.inl ⟨by simp only [fMach_isAsSaid, fMach_isAsSaid_J18, fMach_isAsSaid_J36, Option.bind_some, if_pos g0, g1, g2, g3, g4, no10, no01, or_true, true_or, ↓reduceIte, f0, f1, f2, f3, f4, f5, f6, f7, f8, f9, f10, p1], by simp only [fMod_fits, fMod_fits_J16, fMod_fits_J37, fMod_fits_J49, fMod_fits_J54, fMod_fits_J71, fMod_fits_J94, fMod_fits_J129, Option.bind_some, no10, no01, or_true, true_or, ↓reduceIte, f0, f1, f2, f3, f4, f5, f6, f7, f8, f9, f10, p2]⟩
  exact Or.inr ⟨by simp only [fMach_isAsSaid, fMach_isAsSaid_J18, fMach_isAsSaid_J36, Option.bind_some, if_pos g0, g1, g2, g3, g4, no10, no01, or_true, true_or, ↓reduceIte, f0, f1, f2, f3, f4, f5, f6, f7, f8, f9, f10, p1], by simp only [fMod_fits, fMod_fits_J16, fMod_fits_J37, fMod_fits_J49, fMod_fits_J54, fMod_fits_J71, fMod_fits_J94, fMod_fits_J129, Option.bind_some, no10, no01, or_true, true_or, ↓reduceIte, f0, f1, f2, f3, f4, f5, f6, f7, f8, f9, f10, p2], 15, by omega, rfl, fun _ => p3, fun e => absurd e (by omega), fun e => absurd e (by omega), fun e => absurd e (by omega), fun e => absurd e (by omega), fun e => absurd e (by omega)⟩
theorem said_all (h : RK σ τ nk nf) {o : Nat} (ho : o < 16) (x y z : Int32) : Said n nk σ τ (nI o) x y z := by
  have hcase : o = 0 ∨ o = 1 ∨ o = 2 ∨ o = 3 ∨ o = 4 ∨ o = 5 ∨ o = 6 ∨ o = 7 ∨ o = 8 ∨ o = 9 ∨ o = 10 ∨ o = 11 ∨ o = 12 ∨ o = 13 ∨ o = 14 ∨ o = 15 := by omega
  rcases hcase with e | e | e | e | e | e | e | e | e | e | e | e | e | e | e | e <;> subst e
  · exact said_0 h x y z
  · exact said_1 h x y z
  · exact said_2 h x y z
  · exact said_3 h x y z
  · exact said_4 h x y z
  · exact said_5 h x y z
  · exact said_6 h x y z
  · exact said_7 h x y z
  · exact said_8 h x y z
  · exact said_9 h x y z
  · exact said_10 h x y z
  · exact said_11 h x y z
  · exact said_12 h x y z
  · exact said_13 h x y z
  · exact said_14 h x y z
  · exact said_15 h x y z
end CD
