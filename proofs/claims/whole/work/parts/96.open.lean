theorem g_why (a1 : Int32) : Good (q_why 2000 a1) := by
  sorry
