theorem k_pure : kPure := by
  sorry
