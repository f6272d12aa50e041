/-! ALL CALLS. -/
theorem g_feed (a1 : Int32) (a2 : Int32) (a3 : Int32) (a4 : Int32) (a5 : Int32) : Good (q_feed 2000 a1 a2 a3 a4 a5) := g_feed' (F := 2000) (Nat.le_refl _) a1 a2 a3 a4 a5
theorem g_set (a1 : Int32) (a2 : Int32) : Good (q_set 2000 a1 a2) := g_set' (F := 2000) (Nat.le_refl _) a1 a2
theorem g_fill (a1 : Int32) (a2 : Int32) : Good (q_fill 2000 a1 a2) := g_fill' (F := 2000) (Nat.le_refl _) a1 a2
theorem g_state (a1 : Int32) (a2 : Int32) (a3 : Int32) : Good (q_state 2000 a1 a2 a3) := g_state' (F := 2000) (Nat.le_refl _) a1 a2 a3
theorem g_cell (a1 : Int32) (a2 : Int32) (a3 : Int32) (a4 : Int32) : Good (q_cell 2000 a1 a2 a3 a4) := g_cell' (F := 2000) (Nat.le_refl _) a1 a2 a3 a4
theorem g_run (a1 : Int32) (a2 : Int32) : Good (q_run 2000 a1 a2) := g_run' (F := 2000) (Nat.le_refl _) a1 a2
theorem g_row (a1 : Int32) (a2 : Int32) (a3 : Int32) (a4 : Int32) (a5 : Int32) : Good (q_row 2000 a1 a2 a3 a4 a5) := g_row' (F := 2000) a1 a2 a3 a4 a5
theorem g_asked (a1 : Int32) (a2 : Int32) : Good (q_asked 2000 a1 a2) := g_asked' (F := 2000) a1 a2
theorem g_says (a1 : Int32) (a2 : Int32) : Good (q_says 2000 a1 a2) := g_says' (F := 2000) (Nat.le_refl _) a1 a2
theorem g_odds (a1 : Int32) : Good (q_odds 2000 a1) := g_odds' (F := 2000) (Nat.le_refl _) a1
theorem g_share (a1 : Int32) : Good (q_share 2000 a1) := g_share' (F := 2000) (Nat.le_refl _) a1
theorem g_best  : Good (q_best 2000 ) := g_best' (F := 2000) (Nat.le_refl _) 
theorem g_moved (a1 : Int32) (a2 : Int32) : Good (q_moved 2000 a1 a2) := g_moved' (F := 2000) (Nat.le_refl _) a1 a2
theorem g_inquiry (a1 : Int32) (a2 : Int32) : Good (q_inquiry 2000 a1 a2) := g_inquiry' (F := 2000) (Nat.le_refl _) a1 a2
theorem g_before (a1 : Int32) (a2 : Int32) : Good (q_before 2000 a1 a2) := g_before' (F := 2000) (Nat.le_refl _) a1 a2
theorem g_burnt (a1 : Int32) : Good (q_burnt 2000 a1) := g_burnt' (F := 2000) (Nat.le_refl _) a1
theorem g_option (a1 : Int32) (a2 : Int32) (a3 : Int32) : Good (q_option 2000 a1 a2 a3) := g_option' (F := 2000) a1 a2 a3
theorem g_safe (a1 : Int32) (a2 : Int32) (a3 : Int32) : Good (q_safe 2000 a1 a2 a3) := g_safe' (F := 2000) (Nat.le_refl _) a1 a2 a3
theorem g_least (a1 : Int32) (a2 : Int32) : Good (q_least 2000 a1 a2) := g_least' (F := 2000) (Nat.le_refl _) a1 a2
theorem g_all (a1 : Int32) : Good (q_all 2000 a1) := g_all' (F := 2000) (Nat.le_refl _) a1
theorem g_next (a1 : Int32) : Good (q_next 2000 a1) := g_next' (F := 2000) (Nat.le_refl _) a1
theorem g_parted (a1 : Int32) (a2 : Int32) : Good (q_parted 2000 a1 a2) := g_parted' (F := 2000) (Nat.le_refl _) a1 a2
theorem g_order (a1 : Int32) (a2 : Int32) : Good (q_order 2000 a1 a2) := g_order' (F := 2000) (Nat.le_refl _) a1 a2
theorem g_dry (a1 : Int32) : Good (q_dry 2000 a1) := g_dry' (F := 2000) (Nat.le_refl _) a1
theorem g_image  : Good (q_image 2000 ) := g_image' (F := 2000) (Nat.le_refl _) 
theorem g_restore  : Good (q_restore 2000 ) := g_restore' (F := 2000) (Nat.le_refl _) 
theorem g_count (a1 : Int32) : Good (q_count 2000 a1) := g_count' (F := 2000) a1
theorem g_weigh (a1 : Int32) (a2 : Int32) : Good (q_weigh 2000 a1 a2) := g_weigh' (F := 2000) a1 a2
