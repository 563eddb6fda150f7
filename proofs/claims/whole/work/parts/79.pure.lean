/-- the pure part: class and model answer the same at every script -/
theorem law_true (xs : Nat → Int32) (L : Nat) (hL : L ≤ 3072) : q_law xs L FU (σ0, 0) = some 1 := by
  sorry
