theorem g_feed (a1 : Int32) (a2 : Int32) (a3 : Int32) (a4 : Int32) (a5 : Int32) : Good (q_feed 2000 a1 a2 a3 a4 a5) := by
  sorry
theorem g_why (a1 : Int32) : Good (q_why 2000 a1) := by
  sorry
theorem g_fault  : Good (q_fault 2000 ) := by
  sorry
theorem g_weigh (a1 : Int32) (a2 : Int32) : Good (q_weigh 2000 a1 a2) := by
  sorry
theorem g_set (a1 : Int32) (a2 : Int32) : Good (q_set 2000 a1 a2) := by
  sorry
theorem g_fill (a1 : Int32) (a2 : Int32) : Good (q_fill 2000 a1 a2) := by
  sorry
theorem g_state (a1 : Int32) (a2 : Int32) (a3 : Int32) : Good (q_state 2000 a1 a2 a3) := by
  sorry
theorem g_cell (a1 : Int32) (a2 : Int32) (a3 : Int32) (a4 : Int32) : Good (q_cell 2000 a1 a2 a3 a4) := by
  sorry
theorem g_run (a1 : Int32) (a2 : Int32) : Good (q_run 2000 a1 a2) := by
  sorry
theorem g_row (a1 : Int32) (a2 : Int32) (a3 : Int32) (a4 : Int32) (a5 : Int32) : Good (q_row 2000 a1 a2 a3 a4 a5) := by
  sorry
theorem g_asked (a1 : Int32) (a2 : Int32) : Good (q_asked 2000 a1 a2) := by
  sorry
theorem g_says (a1 : Int32) (a2 : Int32) : Good (q_says 2000 a1 a2) := by
  sorry
theorem g_odds (a1 : Int32) : Good (q_odds 2000 a1) := by
  sorry
theorem g_share (a1 : Int32) : Good (q_share 2000 a1) := by
  sorry
theorem g_best  : Good (q_best 2000 ) := by
  sorry
theorem g_moved (a1 : Int32) (a2 : Int32) : Good (q_moved 2000 a1 a2) := by
  sorry
theorem g_inquiry (a1 : Int32) (a2 : Int32) : Good (q_inquiry 2000 a1 a2) := by
  sorry
theorem g_before (a1 : Int32) (a2 : Int32) : Good (q_before 2000 a1 a2) := by
  sorry
theorem g_burnt (a1 : Int32) : Good (q_burnt 2000 a1) := by
  sorry
theorem g_option (a1 : Int32) (a2 : Int32) (a3 : Int32) : Good (q_option 2000 a1 a2 a3) := by
  sorry
theorem g_safe (a1 : Int32) (a2 : Int32) (a3 : Int32) : Good (q_safe 2000 a1 a2 a3) := by
  sorry
theorem g_least (a1 : Int32) (a2 : Int32) : Good (q_least 2000 a1 a2) := by
  sorry
theorem g_all (a1 : Int32) : Good (q_all 2000 a1) := by
  sorry
theorem g_next (a1 : Int32) : Good (q_next 2000 a1) := by
  sorry
theorem g_parted (a1 : Int32) (a2 : Int32) : Good (q_parted 2000 a1 a2) := by
  sorry
theorem g_order (a1 : Int32) (a2 : Int32) : Good (q_order 2000 a1 a2) := by
  sorry
theorem g_dry (a1 : Int32) : Good (q_dry 2000 a1) := by
  sorry
theorem g_image  : Good (q_image 2000 ) := by
  sorry
theorem g_restore  : Good (q_restore 2000 ) := by
  sorry
theorem g_count (a1 : Int32) : Good (q_count 2000 a1) := by
  sorry
