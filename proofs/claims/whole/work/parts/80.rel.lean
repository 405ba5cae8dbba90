theorem rel_ok : ∀ (x1 x2 : Int32) (n : Nat), 24 ≤ n → n ≤ 120 → lmt x1 = nI n → ∃ Rel : St → St → Prop, Sims (2 * n) Rel ∧ Rel (sg0 x1 x2) (sg1 x1 x2) := by
  sorry
