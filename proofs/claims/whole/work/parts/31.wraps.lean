theorem dL_why_0 : decode cL_why 0 = .ok (.aload_n 2, 1) := by decide +kernel
theorem dL_why_1 : decode cL_why 1 = .ok (.iconst 0, 1) := by decide +kernel
theorem dL_why_2 : decode cL_why 2 = .ok (.aload_n 0, 1) := by decide +kernel
theorem dL_why_3 : decode cL_why 3 = .ok (.iload_n 1, 1) := by decide +kernel
theorem dL_why_4 : decode cL_why 4 = .ok (.invokevirtual 7, 3) := by decide +kernel
theorem dL_why_7 : decode cL_why 7 = .ok (.i2l, 1) := by decide +kernel
theorem dL_why_8 : decode cL_why 8 = .ok (.lastore, 1) := by decide +kernel
theorem dL_why_9 : decode cL_why 9 = .ok (.goto 6, 3) := by decide +kernel
theorem dL_why_12 : decode cL_why 12 = .ok (.astore_n 3, 1) := by decide +kernel
theorem dL_why_13 : decode cL_why 13 = .ok (.iconst 1, 1) := by decide +kernel
theorem dL_why_14 : decode cL_why 14 = .ok (.ireturn, 1) := by decide +kernel
theorem dL_why_15 : decode cL_why 15 = .ok (.iconst 0, 1) := by decide +kernel
theorem dL_why_16 : decode cL_why 16 = .ok (.ireturn, 1) := by decide +kernel
theorem dL_weigh_0 : decode cL_weigh 0 = .ok (.aload_n 3, 1) := by decide +kernel
theorem dL_weigh_1 : decode cL_weigh 1 = .ok (.iconst 0, 1) := by decide +kernel
theorem dL_weigh_2 : decode cL_weigh 2 = .ok (.aload_n 0, 1) := by decide +kernel
theorem dL_weigh_3 : decode cL_weigh 3 = .ok (.iload_n 1, 1) := by decide +kernel
theorem dL_weigh_4 : decode cL_weigh 4 = .ok (.iload_n 2, 1) := by decide +kernel
theorem dL_weigh_5 : decode cL_weigh 5 = .ok (.invokevirtual 15, 3) := by decide +kernel
theorem dL_weigh_8 : decode cL_weigh 8 = .ok (.i2l, 1) := by decide +kernel
theorem dL_weigh_9 : decode cL_weigh 9 = .ok (.lastore, 1) := by decide +kernel
theorem dL_weigh_10 : decode cL_weigh 10 = .ok (.goto 11, 3) := by decide +kernel
theorem dL_weigh_13 : decode cL_weigh 13 = .ok (.astore 4, 2) := by decide +kernel
theorem dL_weigh_15 : decode cL_weigh 15 = .ok (.iconst 1, 1) := by decide +kernel
theorem dL_weigh_16 : decode cL_weigh 16 = .ok (.ireturn, 1) := by decide +kernel
theorem dL_weigh_17 : decode cL_weigh 17 = .ok (.astore 4, 2) := by decide +kernel
theorem dL_weigh_19 : decode cL_weigh 19 = .ok (.iconst 2, 1) := by decide +kernel
theorem dL_weigh_20 : decode cL_weigh 20 = .ok (.ireturn, 1) := by decide +kernel
theorem dL_weigh_21 : decode cL_weigh 21 = .ok (.iconst 0, 1) := by decide +kernel
theorem dL_weigh_22 : decode cL_weigh 22 = .ok (.ireturn, 1) := by decide +kernel
theorem dL_set_0 : decode cL_set 0 = .ok (.aload_n 3, 1) := by decide +kernel
theorem dL_set_1 : decode cL_set 1 = .ok (.iconst 0, 1) := by decide +kernel
theorem dL_set_2 : decode cL_set 2 = .ok (.aload_n 0, 1) := by decide +kernel
theorem dL_set_3 : decode cL_set 3 = .ok (.iload_n 1, 1) := by decide +kernel
theorem dL_set_4 : decode cL_set 4 = .ok (.iload_n 2, 1) := by decide +kernel
theorem dL_set_5 : decode cL_set 5 = .ok (.invokevirtual 21, 3) := by decide +kernel
theorem dL_set_8 : decode cL_set 8 = .ok (.i2l, 1) := by decide +kernel
theorem dL_set_9 : decode cL_set 9 = .ok (.lastore, 1) := by decide +kernel
theorem dL_set_10 : decode cL_set 10 = .ok (.goto 7, 3) := by decide +kernel
theorem dL_set_13 : decode cL_set 13 = .ok (.astore 4, 2) := by decide +kernel
theorem dL_set_15 : decode cL_set 15 = .ok (.iconst 1, 1) := by decide +kernel
theorem dL_set_16 : decode cL_set 16 = .ok (.ireturn, 1) := by decide +kernel
theorem dL_set_17 : decode cL_set 17 = .ok (.iconst 0, 1) := by decide +kernel
theorem dL_set_18 : decode cL_set 18 = .ok (.ireturn, 1) := by decide +kernel
theorem dL_fill_0 : decode cL_fill 0 = .ok (.aload_n 3, 1) := by decide +kernel
theorem dL_fill_1 : decode cL_fill 1 = .ok (.iconst 0, 1) := by decide +kernel
theorem dL_fill_2 : decode cL_fill 2 = .ok (.aload_n 0, 1) := by decide +kernel
theorem dL_fill_3 : decode cL_fill 3 = .ok (.iload_n 1, 1) := by decide +kernel
theorem dL_fill_4 : decode cL_fill 4 = .ok (.iload_n 2, 1) := by decide +kernel
theorem dL_fill_5 : decode cL_fill 5 = .ok (.invokevirtual 24, 3) := by decide +kernel
theorem dL_fill_8 : decode cL_fill 8 = .ok (.i2l, 1) := by decide +kernel
theorem dL_fill_9 : decode cL_fill 9 = .ok (.lastore, 1) := by decide +kernel
theorem dL_fill_10 : decode cL_fill 10 = .ok (.goto 11, 3) := by decide +kernel
theorem dL_fill_13 : decode cL_fill 13 = .ok (.astore 4, 2) := by decide +kernel
theorem dL_fill_15 : decode cL_fill 15 = .ok (.iconst 1, 1) := by decide +kernel
theorem dL_fill_16 : decode cL_fill 16 = .ok (.ireturn, 1) := by decide +kernel
theorem dL_fill_17 : decode cL_fill 17 = .ok (.astore 4, 2) := by decide +kernel
theorem dL_fill_19 : decode cL_fill 19 = .ok (.iconst 2, 1) := by decide +kernel
theorem dL_fill_20 : decode cL_fill 20 = .ok (.ireturn, 1) := by decide +kernel
theorem dL_fill_21 : decode cL_fill 21 = .ok (.iconst 0, 1) := by decide +kernel
theorem dL_fill_22 : decode cL_fill 22 = .ok (.ireturn, 1) := by decide +kernel
theorem dL_state_0 : decode cL_state 0 = .ok (.aload 4, 2) := by decide +kernel
theorem dL_state_2 : decode cL_state 2 = .ok (.iconst 0, 1) := by decide +kernel
theorem dL_state_3 : decode cL_state 3 = .ok (.aload_n 0, 1) := by decide +kernel
theorem dL_state_4 : decode cL_state 4 = .ok (.iload_n 1, 1) := by decide +kernel
theorem dL_state_5 : decode cL_state 5 = .ok (.iload_n 2, 1) := by decide +kernel
theorem dL_state_6 : decode cL_state 6 = .ok (.iload_n 3, 1) := by decide +kernel
theorem dL_state_7 : decode cL_state 7 = .ok (.invokevirtual 29, 3) := by decide +kernel
theorem dL_state_10 : decode cL_state 10 = .ok (.i2l, 1) := by decide +kernel
theorem dL_state_11 : decode cL_state 11 = .ok (.lastore, 1) := by decide +kernel
theorem dL_state_12 : decode cL_state 12 = .ok (.goto 11, 3) := by decide +kernel
theorem dL_state_15 : decode cL_state 15 = .ok (.astore 5, 2) := by decide +kernel
theorem dL_state_17 : decode cL_state 17 = .ok (.iconst 1, 1) := by decide +kernel
theorem dL_state_18 : decode cL_state 18 = .ok (.ireturn, 1) := by decide +kernel
theorem dL_state_19 : decode cL_state 19 = .ok (.astore 5, 2) := by decide +kernel
theorem dL_state_21 : decode cL_state 21 = .ok (.iconst 2, 1) := by decide +kernel
theorem dL_state_22 : decode cL_state 22 = .ok (.ireturn, 1) := by decide +kernel
theorem dL_state_23 : decode cL_state 23 = .ok (.iconst 0, 1) := by decide +kernel
theorem dL_state_24 : decode cL_state 24 = .ok (.ireturn, 1) := by decide +kernel
theorem dL_cell_0 : decode cL_cell 0 = .ok (.aload 5, 2) := by decide +kernel
theorem dL_cell_2 : decode cL_cell 2 = .ok (.iconst 0, 1) := by decide +kernel
theorem dL_cell_3 : decode cL_cell 3 = .ok (.aload_n 0, 1) := by decide +kernel
theorem dL_cell_4 : decode cL_cell 4 = .ok (.iload_n 1, 1) := by decide +kernel
theorem dL_cell_5 : decode cL_cell 5 = .ok (.iload_n 2, 1) := by decide +kernel
theorem dL_cell_6 : decode cL_cell 6 = .ok (.iload_n 3, 1) := by decide +kernel
theorem dL_cell_7 : decode cL_cell 7 = .ok (.iload 4, 2) := by decide +kernel
theorem dL_cell_9 : decode cL_cell 9 = .ok (.invokevirtual 33, 3) := by decide +kernel
theorem dL_cell_12 : decode cL_cell 12 = .ok (.i2l, 1) := by decide +kernel
theorem dL_cell_13 : decode cL_cell 13 = .ok (.lastore, 1) := by decide +kernel
theorem dL_cell_14 : decode cL_cell 14 = .ok (.goto 15, 3) := by decide +kernel
theorem dL_cell_17 : decode cL_cell 17 = .ok (.astore 6, 2) := by decide +kernel
theorem dL_cell_19 : decode cL_cell 19 = .ok (.iconst 1, 1) := by decide +kernel
theorem dL_cell_20 : decode cL_cell 20 = .ok (.ireturn, 1) := by decide +kernel
theorem dL_cell_21 : decode cL_cell 21 = .ok (.astore 6, 2) := by decide +kernel
theorem dL_cell_23 : decode cL_cell 23 = .ok (.iconst 2, 1) := by decide +kernel
theorem dL_cell_24 : decode cL_cell 24 = .ok (.ireturn, 1) := by decide +kernel
theorem dL_cell_25 : decode cL_cell 25 = .ok (.astore 6, 2) := by decide +kernel
theorem dL_cell_27 : decode cL_cell 27 = .ok (.iconst 3, 1) := by decide +kernel
theorem dL_cell_28 : decode cL_cell 28 = .ok (.ireturn, 1) := by decide +kernel
theorem dL_cell_29 : decode cL_cell 29 = .ok (.iconst 0, 1) := by decide +kernel
theorem dL_cell_30 : decode cL_cell 30 = .ok (.ireturn, 1) := by decide +kernel
theorem dL_run_0 : decode cL_run 0 = .ok (.aload_n 3, 1) := by decide +kernel
theorem dL_run_1 : decode cL_run 1 = .ok (.iconst 0, 1) := by decide +kernel
theorem dL_run_2 : decode cL_run 2 = .ok (.aload_n 0, 1) := by decide +kernel
theorem dL_run_3 : decode cL_run 3 = .ok (.iload_n 1, 1) := by decide +kernel
theorem dL_run_4 : decode cL_run 4 = .ok (.iload_n 2, 1) := by decide +kernel
theorem dL_run_5 : decode cL_run 5 = .ok (.invokevirtual 37, 3) := by decide +kernel
theorem dL_run_8 : decode cL_run 8 = .ok (.i2l, 1) := by decide +kernel
theorem dL_run_9 : decode cL_run 9 = .ok (.lastore, 1) := by decide +kernel
theorem dL_run_10 : decode cL_run 10 = .ok (.goto 11, 3) := by decide +kernel
theorem dL_run_13 : decode cL_run 13 = .ok (.astore 4, 2) := by decide +kernel
theorem dL_run_15 : decode cL_run 15 = .ok (.iconst 1, 1) := by decide +kernel
theorem dL_run_16 : decode cL_run 16 = .ok (.ireturn, 1) := by decide +kernel
theorem dL_run_17 : decode cL_run 17 = .ok (.astore 4, 2) := by decide +kernel
theorem dL_run_19 : decode cL_run 19 = .ok (.iconst 2, 1) := by decide +kernel
theorem dL_run_20 : decode cL_run 20 = .ok (.ireturn, 1) := by decide +kernel
theorem dL_run_21 : decode cL_run 21 = .ok (.iconst 0, 1) := by decide +kernel
theorem dL_run_22 : decode cL_run 22 = .ok (.ireturn, 1) := by decide +kernel
theorem dL_row_0 : decode cL_row 0 = .ok (.aload 6, 2) := by decide +kernel
theorem dL_row_2 : decode cL_row 2 = .ok (.iconst 0, 1) := by decide +kernel
theorem dL_row_3 : decode cL_row 3 = .ok (.aload_n 0, 1) := by decide +kernel
theorem dL_row_4 : decode cL_row 4 = .ok (.iload_n 1, 1) := by decide +kernel
theorem dL_row_5 : decode cL_row 5 = .ok (.iload_n 2, 1) := by decide +kernel
theorem dL_row_6 : decode cL_row 6 = .ok (.iload_n 3, 1) := by decide +kernel
theorem dL_row_7 : decode cL_row 7 = .ok (.iload 4, 2) := by decide +kernel
theorem dL_row_9 : decode cL_row 9 = .ok (.iload 5, 2) := by decide +kernel
theorem dL_row_11 : decode cL_row 11 = .ok (.invokevirtual 40, 3) := by decide +kernel
theorem dL_row_14 : decode cL_row 14 = .ok (.i2l, 1) := by decide +kernel
theorem dL_row_15 : decode cL_row 15 = .ok (.lastore, 1) := by decide +kernel
theorem dL_row_16 : decode cL_row 16 = .ok (.goto 7, 3) := by decide +kernel
theorem dL_row_19 : decode cL_row 19 = .ok (.astore 7, 2) := by decide +kernel
theorem dL_row_21 : decode cL_row 21 = .ok (.iconst 1, 1) := by decide +kernel
theorem dL_row_22 : decode cL_row 22 = .ok (.ireturn, 1) := by decide +kernel
theorem dL_row_23 : decode cL_row 23 = .ok (.iconst 0, 1) := by decide +kernel
theorem dL_row_24 : decode cL_row 24 = .ok (.ireturn, 1) := by decide +kernel
theorem dL_asked_0 : decode cL_asked 0 = .ok (.aload_n 3, 1) := by decide +kernel
theorem dL_asked_1 : decode cL_asked 1 = .ok (.iconst 0, 1) := by decide +kernel
theorem dL_asked_2 : decode cL_asked 2 = .ok (.aload_n 0, 1) := by decide +kernel
theorem dL_asked_3 : decode cL_asked 3 = .ok (.iload_n 1, 1) := by decide +kernel
theorem dL_asked_4 : decode cL_asked 4 = .ok (.iload_n 2, 1) := by decide +kernel
theorem dL_asked_5 : decode cL_asked 5 = .ok (.invokevirtual 44, 3) := by decide +kernel
theorem dL_asked_8 : decode cL_asked 8 = .ok (.i2l, 1) := by decide +kernel
theorem dL_asked_9 : decode cL_asked 9 = .ok (.lastore, 1) := by decide +kernel
theorem dL_asked_10 : decode cL_asked 10 = .ok (.goto 11, 3) := by decide +kernel
theorem dL_asked_13 : decode cL_asked 13 = .ok (.astore 4, 2) := by decide +kernel
theorem dL_asked_15 : decode cL_asked 15 = .ok (.iconst 1, 1) := by decide +kernel
theorem dL_asked_16 : decode cL_asked 16 = .ok (.ireturn, 1) := by decide +kernel
theorem dL_asked_17 : decode cL_asked 17 = .ok (.astore 4, 2) := by decide +kernel
theorem dL_asked_19 : decode cL_asked 19 = .ok (.iconst 2, 1) := by decide +kernel
theorem dL_asked_20 : decode cL_asked 20 = .ok (.ireturn, 1) := by decide +kernel
theorem dL_asked_21 : decode cL_asked 21 = .ok (.iconst 0, 1) := by decide +kernel
theorem dL_asked_22 : decode cL_asked 22 = .ok (.ireturn, 1) := by decide +kernel
theorem dL_says_0 : decode cL_says 0 = .ok (.aload_n 3, 1) := by decide +kernel
theorem dL_says_1 : decode cL_says 1 = .ok (.iconst 0, 1) := by decide +kernel
theorem dL_says_2 : decode cL_says 2 = .ok (.aload_n 0, 1) := by decide +kernel
theorem dL_says_3 : decode cL_says 3 = .ok (.iload_n 1, 1) := by decide +kernel
theorem dL_says_4 : decode cL_says 4 = .ok (.iload_n 2, 1) := by decide +kernel
theorem dL_says_5 : decode cL_says 5 = .ok (.invokevirtual 47, 3) := by decide +kernel
theorem dL_says_8 : decode cL_says 8 = .ok (.ifCond .eq 7, 3) := by decide +kernel
theorem dL_says_11 : decode cL_says 11 = .ok (.lconst 1, 1) := by decide +kernel
theorem dL_says_12 : decode cL_says 12 = .ok (.goto 4, 3) := by decide +kernel
theorem dL_says_15 : decode cL_says 15 = .ok (.lconst 0, 1) := by decide +kernel
theorem dL_says_16 : decode cL_says 16 = .ok (.lastore, 1) := by decide +kernel
theorem dL_says_17 : decode cL_says 17 = .ok (.goto 11, 3) := by decide +kernel
theorem dL_says_20 : decode cL_says 20 = .ok (.astore 4, 2) := by decide +kernel
theorem dL_says_22 : decode cL_says 22 = .ok (.iconst 1, 1) := by decide +kernel
theorem dL_says_23 : decode cL_says 23 = .ok (.ireturn, 1) := by decide +kernel
theorem dL_says_24 : decode cL_says 24 = .ok (.astore 4, 2) := by decide +kernel
theorem dL_says_26 : decode cL_says 26 = .ok (.iconst 2, 1) := by decide +kernel
theorem dL_says_27 : decode cL_says 27 = .ok (.ireturn, 1) := by decide +kernel
theorem dL_says_28 : decode cL_says 28 = .ok (.iconst 0, 1) := by decide +kernel
theorem dL_says_29 : decode cL_says 29 = .ok (.ireturn, 1) := by decide +kernel
theorem dL_odds_0 : decode cL_odds 0 = .ok (.aload_n 2, 1) := by decide +kernel
theorem dL_odds_1 : decode cL_odds 1 = .ok (.iconst 0, 1) := by decide +kernel
theorem dL_odds_2 : decode cL_odds 2 = .ok (.aload_n 0, 1) := by decide +kernel
theorem dL_odds_3 : decode cL_odds 3 = .ok (.iload_n 1, 1) := by decide +kernel
theorem dL_odds_4 : decode cL_odds 4 = .ok (.invokevirtual 51, 3) := by decide +kernel
theorem dL_odds_7 : decode cL_odds 7 = .ok (.lastore, 1) := by decide +kernel
theorem dL_odds_8 : decode cL_odds 8 = .ok (.goto 6, 3) := by decide +kernel
theorem dL_odds_11 : decode cL_odds 11 = .ok (.astore_n 3, 1) := by decide +kernel
theorem dL_odds_12 : decode cL_odds 12 = .ok (.iconst 1, 1) := by decide +kernel
theorem dL_odds_13 : decode cL_odds 13 = .ok (.ireturn, 1) := by decide +kernel
theorem dL_odds_14 : decode cL_odds 14 = .ok (.iconst 0, 1) := by decide +kernel
theorem dL_odds_15 : decode cL_odds 15 = .ok (.ireturn, 1) := by decide +kernel
theorem dL_share_0 : decode cL_share 0 = .ok (.aload_n 2, 1) := by decide +kernel
theorem dL_share_1 : decode cL_share 1 = .ok (.iconst 0, 1) := by decide +kernel
theorem dL_share_2 : decode cL_share 2 = .ok (.aload_n 0, 1) := by decide +kernel
theorem dL_share_3 : decode cL_share 3 = .ok (.iload_n 1, 1) := by decide +kernel
theorem dL_share_4 : decode cL_share 4 = .ok (.invokevirtual 55, 3) := by decide +kernel
theorem dL_share_7 : decode cL_share 7 = .ok (.i2l, 1) := by decide +kernel
theorem dL_share_8 : decode cL_share 8 = .ok (.lastore, 1) := by decide +kernel
theorem dL_share_9 : decode cL_share 9 = .ok (.goto 6, 3) := by decide +kernel
theorem dL_share_12 : decode cL_share 12 = .ok (.astore_n 3, 1) := by decide +kernel
theorem dL_share_13 : decode cL_share 13 = .ok (.iconst 1, 1) := by decide +kernel
theorem dL_share_14 : decode cL_share 14 = .ok (.ireturn, 1) := by decide +kernel
theorem dL_share_15 : decode cL_share 15 = .ok (.iconst 0, 1) := by decide +kernel
theorem dL_share_16 : decode cL_share 16 = .ok (.ireturn, 1) := by decide +kernel
theorem dL_moved_0 : decode cL_moved 0 = .ok (.aload_n 3, 1) := by decide +kernel
theorem dL_moved_1 : decode cL_moved 1 = .ok (.iconst 0, 1) := by decide +kernel
theorem dL_moved_2 : decode cL_moved 2 = .ok (.aload_n 0, 1) := by decide +kernel
theorem dL_moved_3 : decode cL_moved 3 = .ok (.iload_n 1, 1) := by decide +kernel
theorem dL_moved_4 : decode cL_moved 4 = .ok (.iload_n 2, 1) := by decide +kernel
theorem dL_moved_5 : decode cL_moved 5 = .ok (.invokevirtual 58, 3) := by decide +kernel
theorem dL_moved_8 : decode cL_moved 8 = .ok (.i2l, 1) := by decide +kernel
theorem dL_moved_9 : decode cL_moved 9 = .ok (.lastore, 1) := by decide +kernel
theorem dL_moved_10 : decode cL_moved 10 = .ok (.goto 11, 3) := by decide +kernel
theorem dL_moved_13 : decode cL_moved 13 = .ok (.astore 4, 2) := by decide +kernel
theorem dL_moved_15 : decode cL_moved 15 = .ok (.iconst 1, 1) := by decide +kernel
theorem dL_moved_16 : decode cL_moved 16 = .ok (.ireturn, 1) := by decide +kernel
theorem dL_moved_17 : decode cL_moved 17 = .ok (.astore 4, 2) := by decide +kernel
theorem dL_moved_19 : decode cL_moved 19 = .ok (.iconst 2, 1) := by decide +kernel
theorem dL_moved_20 : decode cL_moved 20 = .ok (.ireturn, 1) := by decide +kernel
theorem dL_moved_21 : decode cL_moved 21 = .ok (.iconst 0, 1) := by decide +kernel
theorem dL_moved_22 : decode cL_moved 22 = .ok (.ireturn, 1) := by decide +kernel
theorem dL_inquiry_0 : decode cL_inquiry 0 = .ok (.aload_n 3, 1) := by decide +kernel
theorem dL_inquiry_1 : decode cL_inquiry 1 = .ok (.iconst 0, 1) := by decide +kernel
theorem dL_inquiry_2 : decode cL_inquiry 2 = .ok (.aload_n 0, 1) := by decide +kernel
theorem dL_inquiry_3 : decode cL_inquiry 3 = .ok (.iload_n 1, 1) := by decide +kernel
theorem dL_inquiry_4 : decode cL_inquiry 4 = .ok (.iload_n 2, 1) := by decide +kernel
theorem dL_inquiry_5 : decode cL_inquiry 5 = .ok (.invokevirtual 61, 3) := by decide +kernel
theorem dL_inquiry_8 : decode cL_inquiry 8 = .ok (.i2l, 1) := by decide +kernel
theorem dL_inquiry_9 : decode cL_inquiry 9 = .ok (.lastore, 1) := by decide +kernel
theorem dL_inquiry_10 : decode cL_inquiry 10 = .ok (.goto 11, 3) := by decide +kernel
theorem dL_inquiry_13 : decode cL_inquiry 13 = .ok (.astore 4, 2) := by decide +kernel
theorem dL_inquiry_15 : decode cL_inquiry 15 = .ok (.iconst 1, 1) := by decide +kernel
theorem dL_inquiry_16 : decode cL_inquiry 16 = .ok (.ireturn, 1) := by decide +kernel
theorem dL_inquiry_17 : decode cL_inquiry 17 = .ok (.astore 4, 2) := by decide +kernel
theorem dL_inquiry_19 : decode cL_inquiry 19 = .ok (.iconst 2, 1) := by decide +kernel
theorem dL_inquiry_20 : decode cL_inquiry 20 = .ok (.ireturn, 1) := by decide +kernel
theorem dL_inquiry_21 : decode cL_inquiry 21 = .ok (.iconst 0, 1) := by decide +kernel
theorem dL_inquiry_22 : decode cL_inquiry 22 = .ok (.ireturn, 1) := by decide +kernel
theorem dL_before_0 : decode cL_before 0 = .ok (.aload_n 3, 1) := by decide +kernel
theorem dL_before_1 : decode cL_before 1 = .ok (.iconst 0, 1) := by decide +kernel
theorem dL_before_2 : decode cL_before 2 = .ok (.aload_n 0, 1) := by decide +kernel
theorem dL_before_3 : decode cL_before 3 = .ok (.iload_n 1, 1) := by decide +kernel
theorem dL_before_4 : decode cL_before 4 = .ok (.iload_n 2, 1) := by decide +kernel
theorem dL_before_5 : decode cL_before 5 = .ok (.invokevirtual 64, 3) := by decide +kernel
theorem dL_before_8 : decode cL_before 8 = .ok (.i2l, 1) := by decide +kernel
theorem dL_before_9 : decode cL_before 9 = .ok (.lastore, 1) := by decide +kernel
theorem dL_before_10 : decode cL_before 10 = .ok (.goto 7, 3) := by decide +kernel
theorem dL_before_13 : decode cL_before 13 = .ok (.astore 4, 2) := by decide +kernel
theorem dL_before_15 : decode cL_before 15 = .ok (.iconst 1, 1) := by decide +kernel
theorem dL_before_16 : decode cL_before 16 = .ok (.ireturn, 1) := by decide +kernel
theorem dL_before_17 : decode cL_before 17 = .ok (.iconst 0, 1) := by decide +kernel
theorem dL_before_18 : decode cL_before 18 = .ok (.ireturn, 1) := by decide +kernel
theorem dL_burnt_0 : decode cL_burnt 0 = .ok (.aload_n 2, 1) := by decide +kernel
theorem dL_burnt_1 : decode cL_burnt 1 = .ok (.iconst 0, 1) := by decide +kernel
theorem dL_burnt_2 : decode cL_burnt 2 = .ok (.aload_n 0, 1) := by decide +kernel
theorem dL_burnt_3 : decode cL_burnt 3 = .ok (.iload_n 1, 1) := by decide +kernel
theorem dL_burnt_4 : decode cL_burnt 4 = .ok (.invokevirtual 67, 3) := by decide +kernel
theorem dL_burnt_7 : decode cL_burnt 7 = .ok (.i2l, 1) := by decide +kernel
theorem dL_burnt_8 : decode cL_burnt 8 = .ok (.lastore, 1) := by decide +kernel
theorem dL_burnt_9 : decode cL_burnt 9 = .ok (.goto 6, 3) := by decide +kernel
theorem dL_burnt_12 : decode cL_burnt 12 = .ok (.astore_n 3, 1) := by decide +kernel
theorem dL_burnt_13 : decode cL_burnt 13 = .ok (.iconst 1, 1) := by decide +kernel
theorem dL_burnt_14 : decode cL_burnt 14 = .ok (.ireturn, 1) := by decide +kernel
theorem dL_burnt_15 : decode cL_burnt 15 = .ok (.iconst 0, 1) := by decide +kernel
theorem dL_burnt_16 : decode cL_burnt 16 = .ok (.ireturn, 1) := by decide +kernel
theorem dL_option_0 : decode cL_option 0 = .ok (.aload 4, 2) := by decide +kernel
theorem dL_option_2 : decode cL_option 2 = .ok (.iconst 0, 1) := by decide +kernel
theorem dL_option_3 : decode cL_option 3 = .ok (.aload_n 0, 1) := by decide +kernel
theorem dL_option_4 : decode cL_option 4 = .ok (.iload_n 1, 1) := by decide +kernel
theorem dL_option_5 : decode cL_option 5 = .ok (.iload_n 2, 1) := by decide +kernel
theorem dL_option_6 : decode cL_option 6 = .ok (.iload_n 3, 1) := by decide +kernel
theorem dL_option_7 : decode cL_option 7 = .ok (.invokevirtual 70, 3) := by decide +kernel
theorem dL_option_10 : decode cL_option 10 = .ok (.i2l, 1) := by decide +kernel
theorem dL_option_11 : decode cL_option 11 = .ok (.lastore, 1) := by decide +kernel
theorem dL_option_12 : decode cL_option 12 = .ok (.goto 7, 3) := by decide +kernel
theorem dL_option_15 : decode cL_option 15 = .ok (.astore 5, 2) := by decide +kernel
theorem dL_option_17 : decode cL_option 17 = .ok (.iconst 1, 1) := by decide +kernel
theorem dL_option_18 : decode cL_option 18 = .ok (.ireturn, 1) := by decide +kernel
theorem dL_option_19 : decode cL_option 19 = .ok (.iconst 0, 1) := by decide +kernel
theorem dL_option_20 : decode cL_option 20 = .ok (.ireturn, 1) := by decide +kernel
theorem dL_safe_0 : decode cL_safe 0 = .ok (.aload 4, 2) := by decide +kernel
theorem dL_safe_2 : decode cL_safe 2 = .ok (.iconst 0, 1) := by decide +kernel
theorem dL_safe_3 : decode cL_safe 3 = .ok (.aload_n 0, 1) := by decide +kernel
theorem dL_safe_4 : decode cL_safe 4 = .ok (.iload_n 1, 1) := by decide +kernel
theorem dL_safe_5 : decode cL_safe 5 = .ok (.iload_n 2, 1) := by decide +kernel
theorem dL_safe_6 : decode cL_safe 6 = .ok (.iload_n 3, 1) := by decide +kernel
theorem dL_safe_7 : decode cL_safe 7 = .ok (.invokevirtual 73, 3) := by decide +kernel
theorem dL_safe_10 : decode cL_safe 10 = .ok (.ifCond .eq 7, 3) := by decide +kernel
theorem dL_safe_13 : decode cL_safe 13 = .ok (.lconst 1, 1) := by decide +kernel
theorem dL_safe_14 : decode cL_safe 14 = .ok (.goto 4, 3) := by decide +kernel
theorem dL_safe_17 : decode cL_safe 17 = .ok (.lconst 0, 1) := by decide +kernel
theorem dL_safe_18 : decode cL_safe 18 = .ok (.lastore, 1) := by decide +kernel
theorem dL_safe_19 : decode cL_safe 19 = .ok (.goto 11, 3) := by decide +kernel
theorem dL_safe_22 : decode cL_safe 22 = .ok (.astore 5, 2) := by decide +kernel
theorem dL_safe_24 : decode cL_safe 24 = .ok (.iconst 1, 1) := by decide +kernel
theorem dL_safe_25 : decode cL_safe 25 = .ok (.ireturn, 1) := by decide +kernel
theorem dL_safe_26 : decode cL_safe 26 = .ok (.astore 5, 2) := by decide +kernel
theorem dL_safe_28 : decode cL_safe 28 = .ok (.iconst 2, 1) := by decide +kernel
theorem dL_safe_29 : decode cL_safe 29 = .ok (.ireturn, 1) := by decide +kernel
theorem dL_safe_30 : decode cL_safe 30 = .ok (.iconst 0, 1) := by decide +kernel
theorem dL_safe_31 : decode cL_safe 31 = .ok (.ireturn, 1) := by decide +kernel
theorem dL_least_0 : decode cL_least 0 = .ok (.aload_n 3, 1) := by decide +kernel
theorem dL_least_1 : decode cL_least 1 = .ok (.iconst 0, 1) := by decide +kernel
theorem dL_least_2 : decode cL_least 2 = .ok (.aload_n 0, 1) := by decide +kernel
theorem dL_least_3 : decode cL_least 3 = .ok (.iload_n 1, 1) := by decide +kernel
theorem dL_least_4 : decode cL_least 4 = .ok (.iload_n 2, 1) := by decide +kernel
theorem dL_least_5 : decode cL_least 5 = .ok (.invokevirtual 77, 3) := by decide +kernel
theorem dL_least_8 : decode cL_least 8 = .ok (.i2l, 1) := by decide +kernel
theorem dL_least_9 : decode cL_least 9 = .ok (.lastore, 1) := by decide +kernel
theorem dL_least_10 : decode cL_least 10 = .ok (.goto 11, 3) := by decide +kernel
theorem dL_least_13 : decode cL_least 13 = .ok (.astore 4, 2) := by decide +kernel
theorem dL_least_15 : decode cL_least 15 = .ok (.iconst 1, 1) := by decide +kernel
theorem dL_least_16 : decode cL_least 16 = .ok (.ireturn, 1) := by decide +kernel
theorem dL_least_17 : decode cL_least 17 = .ok (.astore 4, 2) := by decide +kernel
theorem dL_least_19 : decode cL_least 19 = .ok (.iconst 2, 1) := by decide +kernel
theorem dL_least_20 : decode cL_least 20 = .ok (.ireturn, 1) := by decide +kernel
theorem dL_least_21 : decode cL_least 21 = .ok (.iconst 0, 1) := by decide +kernel
theorem dL_least_22 : decode cL_least 22 = .ok (.ireturn, 1) := by decide +kernel
theorem dL_all_0 : decode cL_all 0 = .ok (.aload_n 2, 1) := by decide +kernel
theorem dL_all_1 : decode cL_all 1 = .ok (.iconst 0, 1) := by decide +kernel
theorem dL_all_2 : decode cL_all 2 = .ok (.aload_n 0, 1) := by decide +kernel
theorem dL_all_3 : decode cL_all 3 = .ok (.iload_n 1, 1) := by decide +kernel
theorem dL_all_4 : decode cL_all 4 = .ok (.invokevirtual 80, 3) := by decide +kernel
theorem dL_all_7 : decode cL_all 7 = .ok (.i2l, 1) := by decide +kernel
theorem dL_all_8 : decode cL_all 8 = .ok (.lastore, 1) := by decide +kernel
theorem dL_all_9 : decode cL_all 9 = .ok (.goto 6, 3) := by decide +kernel
theorem dL_all_12 : decode cL_all 12 = .ok (.astore_n 3, 1) := by decide +kernel
theorem dL_all_13 : decode cL_all 13 = .ok (.iconst 1, 1) := by decide +kernel
theorem dL_all_14 : decode cL_all 14 = .ok (.ireturn, 1) := by decide +kernel
theorem dL_all_15 : decode cL_all 15 = .ok (.iconst 0, 1) := by decide +kernel
theorem dL_all_16 : decode cL_all 16 = .ok (.ireturn, 1) := by decide +kernel
theorem dL_next_0 : decode cL_next 0 = .ok (.aload_n 2, 1) := by decide +kernel
theorem dL_next_1 : decode cL_next 1 = .ok (.iconst 0, 1) := by decide +kernel
theorem dL_next_2 : decode cL_next 2 = .ok (.aload_n 0, 1) := by decide +kernel
theorem dL_next_3 : decode cL_next 3 = .ok (.iload_n 1, 1) := by decide +kernel
theorem dL_next_4 : decode cL_next 4 = .ok (.invokevirtual 83, 3) := by decide +kernel
theorem dL_next_7 : decode cL_next 7 = .ok (.i2l, 1) := by decide +kernel
theorem dL_next_8 : decode cL_next 8 = .ok (.lastore, 1) := by decide +kernel
theorem dL_next_9 : decode cL_next 9 = .ok (.goto 6, 3) := by decide +kernel
theorem dL_next_12 : decode cL_next 12 = .ok (.astore_n 3, 1) := by decide +kernel
theorem dL_next_13 : decode cL_next 13 = .ok (.iconst 1, 1) := by decide +kernel
theorem dL_next_14 : decode cL_next 14 = .ok (.ireturn, 1) := by decide +kernel
theorem dL_next_15 : decode cL_next 15 = .ok (.iconst 0, 1) := by decide +kernel
theorem dL_next_16 : decode cL_next 16 = .ok (.ireturn, 1) := by decide +kernel
theorem dL_parted_0 : decode cL_parted 0 = .ok (.aload_n 3, 1) := by decide +kernel
theorem dL_parted_1 : decode cL_parted 1 = .ok (.iconst 0, 1) := by decide +kernel
theorem dL_parted_2 : decode cL_parted 2 = .ok (.aload_n 0, 1) := by decide +kernel
theorem dL_parted_3 : decode cL_parted 3 = .ok (.iload_n 1, 1) := by decide +kernel
theorem dL_parted_4 : decode cL_parted 4 = .ok (.iload_n 2, 1) := by decide +kernel
theorem dL_parted_5 : decode cL_parted 5 = .ok (.invokevirtual 86, 3) := by decide +kernel
theorem dL_parted_8 : decode cL_parted 8 = .ok (.i2l, 1) := by decide +kernel
theorem dL_parted_9 : decode cL_parted 9 = .ok (.lastore, 1) := by decide +kernel
theorem dL_parted_10 : decode cL_parted 10 = .ok (.goto 7, 3) := by decide +kernel
theorem dL_parted_13 : decode cL_parted 13 = .ok (.astore 4, 2) := by decide +kernel
theorem dL_parted_15 : decode cL_parted 15 = .ok (.iconst 1, 1) := by decide +kernel
theorem dL_parted_16 : decode cL_parted 16 = .ok (.ireturn, 1) := by decide +kernel
theorem dL_parted_17 : decode cL_parted 17 = .ok (.iconst 0, 1) := by decide +kernel
theorem dL_parted_18 : decode cL_parted 18 = .ok (.ireturn, 1) := by decide +kernel
theorem dL_order_0 : decode cL_order 0 = .ok (.aload_n 3, 1) := by decide +kernel
theorem dL_order_1 : decode cL_order 1 = .ok (.iconst 0, 1) := by decide +kernel
theorem dL_order_2 : decode cL_order 2 = .ok (.aload_n 0, 1) := by decide +kernel
theorem dL_order_3 : decode cL_order 3 = .ok (.iload_n 1, 1) := by decide +kernel
theorem dL_order_4 : decode cL_order 4 = .ok (.iload_n 2, 1) := by decide +kernel
theorem dL_order_5 : decode cL_order 5 = .ok (.invokevirtual 89, 3) := by decide +kernel
theorem dL_order_8 : decode cL_order 8 = .ok (.i2l, 1) := by decide +kernel
theorem dL_order_9 : decode cL_order 9 = .ok (.lastore, 1) := by decide +kernel
theorem dL_order_10 : decode cL_order 10 = .ok (.goto 7, 3) := by decide +kernel
theorem dL_order_13 : decode cL_order 13 = .ok (.astore 4, 2) := by decide +kernel
theorem dL_order_15 : decode cL_order 15 = .ok (.iconst 1, 1) := by decide +kernel
theorem dL_order_16 : decode cL_order 16 = .ok (.ireturn, 1) := by decide +kernel
theorem dL_order_17 : decode cL_order 17 = .ok (.iconst 0, 1) := by decide +kernel
theorem dL_order_18 : decode cL_order 18 = .ok (.ireturn, 1) := by decide +kernel
theorem dL_dry_0 : decode cL_dry 0 = .ok (.aload_n 2, 1) := by decide +kernel
theorem dL_dry_1 : decode cL_dry 1 = .ok (.iconst 0, 1) := by decide +kernel
theorem dL_dry_2 : decode cL_dry 2 = .ok (.aload_n 0, 1) := by decide +kernel
theorem dL_dry_3 : decode cL_dry 3 = .ok (.iload_n 1, 1) := by decide +kernel
theorem dL_dry_4 : decode cL_dry 4 = .ok (.invokevirtual 92, 3) := by decide +kernel
theorem dL_dry_7 : decode cL_dry 7 = .ok (.i2l, 1) := by decide +kernel
theorem dL_dry_8 : decode cL_dry 8 = .ok (.lastore, 1) := by decide +kernel
theorem dL_dry_9 : decode cL_dry 9 = .ok (.goto 6, 3) := by decide +kernel
theorem dL_dry_12 : decode cL_dry 12 = .ok (.astore_n 3, 1) := by decide +kernel
theorem dL_dry_13 : decode cL_dry 13 = .ok (.iconst 1, 1) := by decide +kernel
theorem dL_dry_14 : decode cL_dry 14 = .ok (.ireturn, 1) := by decide +kernel
theorem dL_dry_15 : decode cL_dry 15 = .ok (.iconst 0, 1) := by decide +kernel
theorem dL_dry_16 : decode cL_dry 16 = .ok (.ireturn, 1) := by decide +kernel
def w_why (F : Nat) (a1 : Int32) (σ : kS) : Option kR := kBhi (f_X5_why F a1 σ) (fun c1 σ1 => kb (kUL σ1 90 0 0 c1.toInt64) fun σ2 => some (.inl (some (.int 0)), σ2)) (fun ex σ1 => if ex = "java/lang/IllegalArgumentException" then some (.inl (some (.int 1)), σ1) else (none))
set_option maxRecDepth 20000 in
theorem cw_why {l : Launch} {E : kE} (hj : kEj E) (hn : kNorm E) (hl : l.stackTraces = false) (F : Nat) (a1 : Int32) (σ : kS) : kMetH l E yL_why cL_why 4 (some .int) [(0, 9, 12, 13)] 356 8035 1 [.ref (kad E 0 0), .int a1, .ref (kad E 90 0)] σ (w_why F a1 σ) := by
  refine k_metH hj hn hl (by decide) (Nat.le_of_ble_eq_true rfl) (fun C Q hk he hro => ?_)
  have hk : kOk (C, E, Q) cL_why RL 4 := hk
  show Sm (C, E, Q) 4 0 0 [(0, .ref (kad E 0 0)), (1, .int a1), (2, .ref (kad E 90 0))] [] σ _
  unfold w_why
  refine k_aload_n hk dL_why_0 2 rfl ?_
  refine k_iconst (v := 0) hk dL_why_1 (by decide) ?_
  refine k_aload_n hk dL_why_2 0 rfl ?_
  refine k_iload_n hk dL_why_3 1 rfl ?_
  refine k_callVHi (As := [.int a1]) (rest := [.int 0, .ref (kad E 90 0)]) hk hro (c_X5_why hj hn hl F a1 σ) dL_why_4 cw_RL_7 rfl (by decide) kc5 rfl ⟨by decide, by decide⟩ (by decide) rfl (Nat.le_of_ble_eq_true rfl) (fun c1 σ1 => ?_) (fun ex σ1 => ?_)
  · refine k_i2l hk dL_why_7 ?_
    refine k_last_k (kk := 0) hk dL_why_8 rfl (by decide) (by decide) (by decide) (fun σ2 => ?_)
    refine k_goto hk dL_why_9 15 (by decide) ?_
    refine k_iconst (v := 0) hk dL_why_15 (by decide) ?_
    exact kh_ireturn hk he dL_why_16 (by decide)
  · refine kThr_ite (fun h0 => ?_) ?_
    · refine kThr_c hk he h0 [] { startPc := 0, endPc := 9, handlerPc := 12, catchType := 13 } [] rfl (fun z hz => by cases hz) (by decide) (by decide) (kTB_mk (lwt3 (List.mem_of_getElem? (i := 38) rfl)) rfl) (by decide) (fun q9 => ?_)
      refine k_astore_n (lv' := [(3, .ref q9), (0, .ref (kad E 0 0)), (1, .int a1), (2, .ref (kad E 90 0))]) hk dL_why_12 (by decide) rfl ?_
      refine k_iconst (v := 1) hk dL_why_13 (by decide) ?_
      exact kh_ireturn hk he dL_why_14 (by decide)
    exact kThr_no
def w_weigh (F : Nat) (a1 : Int32) (a2 : Int32) (σ : kS) : Option kR := kBhi (f_X5_weigh F a1 a2 σ) (fun c1 σ1 => kb (kUL σ1 90 0 0 c1.toInt64) fun σ2 => some (.inl (some (.int 0)), σ2)) (fun ex σ1 => if ex = "java/util/NoSuchElementException" then some (.inl (some (.int 1)), σ1) else (if ex = "java/lang/IllegalArgumentException" then some (.inl (some (.int 2)), σ1) else (none)))
set_option maxRecDepth 20000 in
theorem cw_weigh {l : Launch} {E : kE} (hj : kEj E) (hn : kNorm E) (hl : l.stackTraces = false) (F : Nat) (a1 : Int32) (a2 : Int32) (σ : kS) : kMetH l E yL_weigh cL_weigh 5 (some .int) [(0, 10, 13, 19), (0, 10, 17, 13)] 10 185 2 [.ref (kad E 0 0), .int a1, .int a2, .ref (kad E 90 0)] σ (w_weigh F a1 a2 σ) := by
  refine k_metH hj hn hl (by decide) (Nat.le_of_ble_eq_true rfl) (fun C Q hk he hro => ?_)
  have hk : kOk (C, E, Q) cL_weigh RL 5 := hk
  show Sm (C, E, Q) 5 0 0 [(0, .ref (kad E 0 0)), (1, .int a1), (2, .int a2), (3, .ref (kad E 90 0))] [] σ _
  unfold w_weigh
  refine k_aload_n hk dL_weigh_0 3 rfl ?_
  refine k_iconst (v := 0) hk dL_weigh_1 (by decide) ?_
  refine k_aload_n hk dL_weigh_2 0 rfl ?_
  refine k_iload_n hk dL_weigh_3 1 rfl ?_
  refine k_iload_n hk dL_weigh_4 2 rfl ?_
  refine k_callVHi (As := [.int a1, .int a2]) (rest := [.int 0, .ref (kad E 90 0)]) hk hro (c_X5_weigh hj hn hl F a1 a2 σ) dL_weigh_5 cw_RL_15 rfl (by decide) kc5 rfl ⟨by decide, by decide⟩ (by decide) rfl (Nat.le_of_ble_eq_true rfl) (fun c1 σ1 => ?_) (fun ex σ1 => ?_)
  · refine k_i2l hk dL_weigh_8 ?_
    refine k_last_k (kk := 0) hk dL_weigh_9 rfl (by decide) (by decide) (by decide) (fun σ2 => ?_)
    refine k_goto hk dL_weigh_10 21 (by decide) ?_
    refine k_iconst (v := 0) hk dL_weigh_21 (by decide) ?_
    exact kh_ireturn hk he dL_weigh_22 (by decide)
  · refine kThr_ite (fun h0 => ?_) ?_
    · refine kThr_c hk he h0 [] { startPc := 0, endPc := 10, handlerPc := 13, catchType := 19 } [{ startPc := 0, endPc := 10, handlerPc := 17, catchType := 13 }] rfl (fun z hz => by cases hz) (by decide) (by decide) (kTB_mk (lwt4 (List.mem_of_getElem? (i := 37) rfl)) rfl) (by decide) (fun q9 => ?_)
      refine k_astore (lv' := [(4, .ref q9), (0, .ref (kad E 0 0)), (1, .int a1), (2, .int a2), (3, .ref (kad E 90 0))]) hk dL_weigh_13 (by decide) rfl ?_
      refine k_iconst (v := 1) hk dL_weigh_15 (by decide) ?_
      exact kh_ireturn hk he dL_weigh_16 (by decide)
    refine kThr_ite (fun h1 => ?_) ?_
    · refine kThr_c hk he h1 [{ startPc := 0, endPc := 10, handlerPc := 13, catchType := 19 }] { startPc := 0, endPc := 10, handlerPc := 17, catchType := 13 } [] rfl (fun z hz => by
      simp only [List.mem_cons, List.not_mem_nil, or_false] at hz
      rcases hz with rfl
      · exact ⟨by decide, by decide, "java/util/NoSuchElementException", kTB_mk (lwt4 (List.mem_of_getElem? (i := 37) rfl)) rfl, by decide⟩) (by decide) (by decide) (kTB_mk (lwt3 (List.mem_of_getElem? (i := 38) rfl)) rfl) (by decide) (fun q9 => ?_)
      refine k_astore (lv' := [(4, .ref q9), (0, .ref (kad E 0 0)), (1, .int a1), (2, .int a2), (3, .ref (kad E 90 0))]) hk dL_weigh_17 (by decide) rfl ?_
      refine k_iconst (v := 2) hk dL_weigh_19 (by decide) ?_
      exact kh_ireturn hk he dL_weigh_20 (by decide)
    exact kThr_no
def w_set (F : Nat) (a1 : Int32) (a2 : Int32) (σ : kS) : Option kR := kBhi (f_X5_set F a1 a2 σ) (fun c1 σ1 => kb (kUL σ1 90 0 0 c1.toInt64) fun σ2 => some (.inl (some (.int 0)), σ2)) (fun ex σ1 => if ex = "java/lang/IllegalArgumentException" then some (.inl (some (.int 1)), σ1) else (none))
set_option maxRecDepth 20000 in
theorem cw_set {l : Launch} {E : kE} (hj : kEj E) (hn : kNorm E) (hl : l.stackTraces = false) (F : Nat) (a1 : Int32) (a2 : Int32) (σ : kS) : kMetH l E yL_set cL_set 5 (some .int) [(0, 10, 13, 13)] 10 184 1 [.ref (kad E 0 0), .int a1, .int a2, .ref (kad E 90 0)] σ (w_set F a1 a2 σ) := by
  refine k_metH hj hn hl (by decide) (Nat.le_of_ble_eq_true rfl) (fun C Q hk he hro => ?_)
  have hk : kOk (C, E, Q) cL_set RL 5 := hk
  show Sm (C, E, Q) 5 0 0 [(0, .ref (kad E 0 0)), (1, .int a1), (2, .int a2), (3, .ref (kad E 90 0))] [] σ _
  unfold w_set
  refine k_aload_n hk dL_set_0 3 rfl ?_
  refine k_iconst (v := 0) hk dL_set_1 (by decide) ?_
  refine k_aload_n hk dL_set_2 0 rfl ?_
  refine k_iload_n hk dL_set_3 1 rfl ?_
  refine k_iload_n hk dL_set_4 2 rfl ?_
  refine k_callVHi (As := [.int a1, .int a2]) (rest := [.int 0, .ref (kad E 90 0)]) hk hro (c_X5_set hj hn hl F a1 a2 σ) dL_set_5 cw_RL_21 rfl (by decide) kc5 rfl ⟨by decide, by decide⟩ (by decide) rfl (Nat.le_of_ble_eq_true rfl) (fun c1 σ1 => ?_) (fun ex σ1 => ?_)
  · refine k_i2l hk dL_set_8 ?_
    refine k_last_k (kk := 0) hk dL_set_9 rfl (by decide) (by decide) (by decide) (fun σ2 => ?_)
    refine k_goto hk dL_set_10 17 (by decide) ?_
    refine k_iconst (v := 0) hk dL_set_17 (by decide) ?_
    exact kh_ireturn hk he dL_set_18 (by decide)
  · refine kThr_ite (fun h0 => ?_) ?_
    · refine kThr_c hk he h0 [] { startPc := 0, endPc := 10, handlerPc := 13, catchType := 13 } [] rfl (fun z hz => by cases hz) (by decide) (by decide) (kTB_mk (lwt3 (List.mem_of_getElem? (i := 38) rfl)) rfl) (by decide) (fun q9 => ?_)
      refine k_astore (lv' := [(4, .ref q9), (0, .ref (kad E 0 0)), (1, .int a1), (2, .int a2), (3, .ref (kad E 90 0))]) hk dL_set_13 (by decide) rfl ?_
      refine k_iconst (v := 1) hk dL_set_15 (by decide) ?_
      exact kh_ireturn hk he dL_set_16 (by decide)
    exact kThr_no
def w_fill (F : Nat) (a1 : Int32) (a2 : Int32) (σ : kS) : Option kR := kBhi (f_X5_fill F a1 a2 σ) (fun c1 σ1 => kb (kUL σ1 90 0 0 c1.toInt64) fun σ2 => some (.inl (some (.int 0)), σ2)) (fun ex σ1 => if ex = "java/lang/IndexOutOfBoundsException" then some (.inl (some (.int 1)), σ1) else (if ex = "java/lang/IllegalArgumentException" then some (.inl (some (.int 2)), σ1) else (none)))
set_option maxRecDepth 20000 in
theorem cw_fill {l : Launch} {E : kE} (hj : kEj E) (hn : kNorm E) (hl : l.stackTraces = false) (F : Nat) (a1 : Int32) (a2 : Int32) (σ : kS) : kMetH l E yL_fill cL_fill 5 (some .int) [(0, 10, 13, 27), (0, 10, 17, 13)] 10 185 2 [.ref (kad E 0 0), .int a1, .int a2, .ref (kad E 90 0)] σ (w_fill F a1 a2 σ) := by
  refine k_metH hj hn hl (by decide) (Nat.le_of_ble_eq_true rfl) (fun C Q hk he hro => ?_)
  have hk : kOk (C, E, Q) cL_fill RL 5 := hk
  show Sm (C, E, Q) 5 0 0 [(0, .ref (kad E 0 0)), (1, .int a1), (2, .int a2), (3, .ref (kad E 90 0))] [] σ _
  unfold w_fill
  refine k_aload_n hk dL_fill_0 3 rfl ?_
  refine k_iconst (v := 0) hk dL_fill_1 (by decide) ?_
  refine k_aload_n hk dL_fill_2 0 rfl ?_
  refine k_iload_n hk dL_fill_3 1 rfl ?_
  refine k_iload_n hk dL_fill_4 2 rfl ?_
  refine k_callVHi (As := [.int a1, .int a2]) (rest := [.int 0, .ref (kad E 90 0)]) hk hro (c_X5_fill hj hn hl F a1 a2 σ) dL_fill_5 cw_RL_24 rfl (by decide) kc5 rfl ⟨by decide, by decide⟩ (by decide) rfl (Nat.le_of_ble_eq_true rfl) (fun c1 σ1 => ?_) (fun ex σ1 => ?_)
  · refine k_i2l hk dL_fill_8 ?_
    refine k_last_k (kk := 0) hk dL_fill_9 rfl (by decide) (by decide) (by decide) (fun σ2 => ?_)
    refine k_goto hk dL_fill_10 21 (by decide) ?_
    refine k_iconst (v := 0) hk dL_fill_21 (by decide) ?_
    exact kh_ireturn hk he dL_fill_22 (by decide)
  · refine kThr_ite (fun h0 => ?_) ?_
    · refine kThr_c hk he h0 [] { startPc := 0, endPc := 10, handlerPc := 13, catchType := 27 } [{ startPc := 0, endPc := 10, handlerPc := 17, catchType := 13 }] rfl (fun z hz => by cases hz) (by decide) (by decide) (kTB_mk (lwt4 (List.mem_of_getElem? (i := 82) rfl)) rfl) (by decide) (fun q9 => ?_)
      refine k_astore (lv' := [(4, .ref q9), (0, .ref (kad E 0 0)), (1, .int a1), (2, .int a2), (3, .ref (kad E 90 0))]) hk dL_fill_13 (by decide) rfl ?_
      refine k_iconst (v := 1) hk dL_fill_15 (by decide) ?_
      exact kh_ireturn hk he dL_fill_16 (by decide)
    refine kThr_ite (fun h1 => ?_) ?_
    · refine kThr_c hk he h1 [{ startPc := 0, endPc := 10, handlerPc := 13, catchType := 27 }] { startPc := 0, endPc := 10, handlerPc := 17, catchType := 13 } [] rfl (fun z hz => by
      simp only [List.mem_cons, List.not_mem_nil, or_false] at hz
      rcases hz with rfl
      · exact ⟨by decide, by decide, "java/lang/IndexOutOfBoundsException", kTB_mk (lwt4 (List.mem_of_getElem? (i := 82) rfl)) rfl, by decide⟩) (by decide) (by decide) (kTB_mk (lwt3 (List.mem_of_getElem? (i := 38) rfl)) rfl) (by decide) (fun q9 => ?_)
      refine k_astore (lv' := [(4, .ref q9), (0, .ref (kad E 0 0)), (1, .int a1), (2, .int a2), (3, .ref (kad E 90 0))]) hk dL_fill_17 (by decide) rfl ?_
      refine k_iconst (v := 2) hk dL_fill_19 (by decide) ?_
      exact kh_ireturn hk he dL_fill_20 (by decide)
    exact kThr_no
def w_state (F : Nat) (a1 : Int32) (a2 : Int32) (a3 : Int32) (σ : kS) : Option kR := kBhi (f_X5_state F a1 a2 a3 σ) (fun c1 σ1 => kb (kUL σ1 90 0 0 c1.toInt64) fun σ2 => some (.inl (some (.int 0)), σ2)) (fun ex σ1 => if ex = "java/util/NoSuchElementException" then some (.inl (some (.int 1)), σ1) else (if ex = "java/lang/IllegalArgumentException" then some (.inl (some (.int 2)), σ1) else (none)))
set_option maxRecDepth 20000 in
theorem cw_state {l : Launch} {E : kE} (hj : kEj E) (hn : kNorm E) (hl : l.stackTraces = false) (F : Nat) (a1 : Int32) (a2 : Int32) (a3 : Int32) (σ : kS) : kMetH l E yL_state cL_state 6 (some .int) [(0, 12, 15, 19), (0, 12, 19, 13)] 10 186 3 [.ref (kad E 0 0), .int a1, .int a2, .int a3, .ref (kad E 90 0)] σ (w_state F a1 a2 a3 σ) := by
  refine k_metH hj hn hl (by decide) (Nat.le_of_ble_eq_true rfl) (fun C Q hk he hro => ?_)
  have hk : kOk (C, E, Q) cL_state RL 6 := hk
  show Sm (C, E, Q) 6 0 0 [(0, .ref (kad E 0 0)), (1, .int a1), (2, .int a2), (3, .int a3), (4, .ref (kad E 90 0))] [] σ _
  unfold w_state
  refine k_aload hk dL_state_0 4 rfl ?_
  refine k_iconst (v := 0) hk dL_state_2 (by decide) ?_
  refine k_aload_n hk dL_state_3 0 rfl ?_
  refine k_iload_n hk dL_state_4 1 rfl ?_
  refine k_iload_n hk dL_state_5 2 rfl ?_
  refine k_iload_n hk dL_state_6 3 rfl ?_
  refine k_callVHi (As := [.int a1, .int a2, .int a3]) (rest := [.int 0, .ref (kad E 90 0)]) hk hro (c_X5_state hj hn hl F a1 a2 a3 σ) dL_state_7 cw_RL_29 rfl (by decide) kc5 rfl ⟨by decide, by decide⟩ (by decide) rfl (Nat.le_of_ble_eq_true rfl) (fun c1 σ1 => ?_) (fun ex σ1 => ?_)
  · refine k_i2l hk dL_state_10 ?_
    refine k_last_k (kk := 0) hk dL_state_11 rfl (by decide) (by decide) (by decide) (fun σ2 => ?_)
    refine k_goto hk dL_state_12 23 (by decide) ?_
    refine k_iconst (v := 0) hk dL_state_23 (by decide) ?_
    exact kh_ireturn hk he dL_state_24 (by decide)
  · refine kThr_ite (fun h0 => ?_) ?_
    · refine kThr_c hk he h0 [] { startPc := 0, endPc := 12, handlerPc := 15, catchType := 19 } [{ startPc := 0, endPc := 12, handlerPc := 19, catchType := 13 }] rfl (fun z hz => by cases hz) (by decide) (by decide) (kTB_mk (lwt4 (List.mem_of_getElem? (i := 37) rfl)) rfl) (by decide) (fun q9 => ?_)
      refine k_astore (lv' := [(5, .ref q9), (0, .ref (kad E 0 0)), (1, .int a1), (2, .int a2), (3, .int a3), (4, .ref (kad E 90 0))]) hk dL_state_15 (by decide) rfl ?_
      refine k_iconst (v := 1) hk dL_state_17 (by decide) ?_
      exact kh_ireturn hk he dL_state_18 (by decide)
    refine kThr_ite (fun h1 => ?_) ?_
    · refine kThr_c hk he h1 [{ startPc := 0, endPc := 12, handlerPc := 15, catchType := 19 }] { startPc := 0, endPc := 12, handlerPc := 19, catchType := 13 } [] rfl (fun z hz => by
      simp only [List.mem_cons, List.not_mem_nil, or_false] at hz
      rcases hz with rfl
      · exact ⟨by decide, by decide, "java/util/NoSuchElementException", kTB_mk (lwt4 (List.mem_of_getElem? (i := 37) rfl)) rfl, by decide⟩) (by decide) (by decide) (kTB_mk (lwt3 (List.mem_of_getElem? (i := 38) rfl)) rfl) (by decide) (fun q9 => ?_)
      refine k_astore (lv' := [(5, .ref q9), (0, .ref (kad E 0 0)), (1, .int a1), (2, .int a2), (3, .int a3), (4, .ref (kad E 90 0))]) hk dL_state_19 (by decide) rfl ?_
      refine k_iconst (v := 2) hk dL_state_21 (by decide) ?_
      exact kh_ireturn hk he dL_state_22 (by decide)
    exact kThr_no
def w_cell (F : Nat) (a1 : Int32) (a2 : Int32) (a3 : Int32) (a4 : Int32) (σ : kS) : Option kR := kBhi (f_X5_cell F a1 a2 a3 a4 σ) (fun c1 σ1 => kb (kUL σ1 90 0 0 c1.toInt64) fun σ2 => some (.inl (some (.int 0)), σ2)) (fun ex σ1 => if ex = "java/util/NoSuchElementException" then some (.inl (some (.int 1)), σ1) else (if ex = "java/lang/IndexOutOfBoundsException" then some (.inl (some (.int 2)), σ1) else (if ex = "java/lang/IllegalArgumentException" then some (.inl (some (.int 3)), σ1) else (none))))
set_option maxRecDepth 20000 in
theorem cw_cell {l : Launch} {E : kE} (hj : kEj E) (hn : kNorm E) (hl : l.stackTraces = false) (F : Nat) (a1 : Int32) (a2 : Int32) (a3 : Int32) (a4 : Int32) (σ : kS) : kMetH l E yL_cell cL_cell 7 (some .int) [(0, 14, 17, 19), (0, 14, 21, 27), (0, 14, 25, 13)] 10 188 4 [.ref (kad E 0 0), .int a1, .int a2, .int a3, .int a4, .ref (kad E 90 0)] σ (w_cell F a1 a2 a3 a4 σ) := by
  refine k_metH hj hn hl (by decide) (Nat.le_of_ble_eq_true rfl) (fun C Q hk he hro => ?_)
  have hk : kOk (C, E, Q) cL_cell RL 7 := hk
  show Sm (C, E, Q) 7 0 0 [(0, .ref (kad E 0 0)), (1, .int a1), (2, .int a2), (3, .int a3), (4, .int a4), (5, .ref (kad E 90 0))] [] σ _
  unfold w_cell
  refine k_aload hk dL_cell_0 5 rfl ?_
  refine k_iconst (v := 0) hk dL_cell_2 (by decide) ?_
  refine k_aload_n hk dL_cell_3 0 rfl ?_
  refine k_iload_n hk dL_cell_4 1 rfl ?_
  refine k_iload_n hk dL_cell_5 2 rfl ?_
  refine k_iload_n hk dL_cell_6 3 rfl ?_
  refine k_iload hk dL_cell_7 4 rfl ?_
  refine k_callVHi (As := [.int a1, .int a2, .int a3, .int a4]) (rest := [.int 0, .ref (kad E 90 0)]) hk hro (c_X5_cell hj hn hl F a1 a2 a3 a4 σ) dL_cell_9 cw_RL_33 rfl (by decide) kc5 rfl ⟨by decide, by decide⟩ (by decide) rfl (Nat.le_of_ble_eq_true rfl) (fun c1 σ1 => ?_) (fun ex σ1 => ?_)
  · refine k_i2l hk dL_cell_12 ?_
    refine k_last_k (kk := 0) hk dL_cell_13 rfl (by decide) (by decide) (by decide) (fun σ2 => ?_)
    refine k_goto hk dL_cell_14 29 (by decide) ?_
    refine k_iconst (v := 0) hk dL_cell_29 (by decide) ?_
    exact kh_ireturn hk he dL_cell_30 (by decide)
  · refine kThr_ite (fun h0 => ?_) ?_
    · refine kThr_c hk he h0 [] { startPc := 0, endPc := 14, handlerPc := 17, catchType := 19 } [{ startPc := 0, endPc := 14, handlerPc := 21, catchType := 27 }, { startPc := 0, endPc := 14, handlerPc := 25, catchType := 13 }] rfl (fun z hz => by cases hz) (by decide) (by decide) (kTB_mk (lwt4 (List.mem_of_getElem? (i := 37) rfl)) rfl) (by decide) (fun q9 => ?_)
      refine k_astore (lv' := [(6, .ref q9), (0, .ref (kad E 0 0)), (1, .int a1), (2, .int a2), (3, .int a3), (4, .int a4), (5, .ref (kad E 90 0))]) hk dL_cell_17 (by decide) rfl ?_
      refine k_iconst (v := 1) hk dL_cell_19 (by decide) ?_
      exact kh_ireturn hk he dL_cell_20 (by decide)
    refine kThr_ite (fun h1 => ?_) ?_
    · refine kThr_c hk he h1 [{ startPc := 0, endPc := 14, handlerPc := 17, catchType := 19 }] { startPc := 0, endPc := 14, handlerPc := 21, catchType := 27 } [{ startPc := 0, endPc := 14, handlerPc := 25, catchType := 13 }] rfl (fun z hz => by
      simp only [List.mem_cons, List.not_mem_nil, or_false] at hz
      rcases hz with rfl
      · exact ⟨by decide, by decide, "java/util/NoSuchElementException", kTB_mk (lwt4 (List.mem_of_getElem? (i := 37) rfl)) rfl, by decide⟩) (by decide) (by decide) (kTB_mk (lwt4 (List.mem_of_getElem? (i := 82) rfl)) rfl) (by decide) (fun q9 => ?_)
      refine k_astore (lv' := [(6, .ref q9), (0, .ref (kad E 0 0)), (1, .int a1), (2, .int a2), (3, .int a3), (4, .int a4), (5, .ref (kad E 90 0))]) hk dL_cell_21 (by decide) rfl ?_
      refine k_iconst (v := 2) hk dL_cell_23 (by decide) ?_
      exact kh_ireturn hk he dL_cell_24 (by decide)
    refine kThr_ite (fun h2 => ?_) ?_
    · refine kThr_c hk he h2 [{ startPc := 0, endPc := 14, handlerPc := 17, catchType := 19 }, { startPc := 0, endPc := 14, handlerPc := 21, catchType := 27 }] { startPc := 0, endPc := 14, handlerPc := 25, catchType := 13 } [] rfl (fun z hz => by
      simp only [List.mem_cons, List.not_mem_nil, or_false] at hz
      rcases hz with rfl | rfl
      · exact ⟨by decide, by decide, "java/util/NoSuchElementException", kTB_mk (lwt4 (List.mem_of_getElem? (i := 37) rfl)) rfl, by decide⟩
      · exact ⟨by decide, by decide, "java/lang/IndexOutOfBoundsException", kTB_mk (lwt4 (List.mem_of_getElem? (i := 82) rfl)) rfl, by decide⟩) (by decide) (by decide) (kTB_mk (lwt3 (List.mem_of_getElem? (i := 38) rfl)) rfl) (by decide) (fun q9 => ?_)
      refine k_astore (lv' := [(6, .ref q9), (0, .ref (kad E 0 0)), (1, .int a1), (2, .int a2), (3, .int a3), (4, .int a4), (5, .ref (kad E 90 0))]) hk dL_cell_25 (by decide) rfl ?_
      refine k_iconst (v := 3) hk dL_cell_27 (by decide) ?_
      exact kh_ireturn hk he dL_cell_28 (by decide)
    exact kThr_no
def w_run (F : Nat) (a1 : Int32) (a2 : Int32) (σ : kS) : Option kR := kBhi (f_X5_run F a1 a2 σ) (fun c1 σ1 => kb (kUL σ1 90 0 0 c1.toInt64) fun σ2 => some (.inl (some (.int 0)), σ2)) (fun ex σ1 => if ex = "java/util/NoSuchElementException" then some (.inl (some (.int 1)), σ1) else (if ex = "java/lang/IllegalArgumentException" then some (.inl (some (.int 2)), σ1) else (none)))
set_option maxRecDepth 20000 in
theorem cw_run {l : Launch} {E : kE} (hj : kEj E) (hn : kNorm E) (hl : l.stackTraces = false) (F : Nat) (a1 : Int32) (a2 : Int32) (σ : kS) : kMetH l E yL_run cL_run 5 (some .int) [(0, 10, 13, 19), (0, 10, 17, 13)] 10 184 2 [.ref (kad E 0 0), .int a1, .int a2, .ref (kad E 90 0)] σ (w_run F a1 a2 σ) := by
  refine k_metH hj hn hl (by decide) (Nat.le_of_ble_eq_true rfl) (fun C Q hk he hro => ?_)
  have hk : kOk (C, E, Q) cL_run RL 5 := hk
  show Sm (C, E, Q) 5 0 0 [(0, .ref (kad E 0 0)), (1, .int a1), (2, .int a2), (3, .ref (kad E 90 0))] [] σ _
  unfold w_run
  refine k_aload_n hk dL_run_0 3 rfl ?_
  refine k_iconst (v := 0) hk dL_run_1 (by decide) ?_
  refine k_aload_n hk dL_run_2 0 rfl ?_
  refine k_iload_n hk dL_run_3 1 rfl ?_
  refine k_iload_n hk dL_run_4 2 rfl ?_
  refine k_callVHi (As := [.int a1, .int a2]) (rest := [.int 0, .ref (kad E 90 0)]) hk hro (c_X5_run hj hn hl F a1 a2 σ) dL_run_5 cw_RL_37 rfl (by decide) kc5 rfl ⟨by decide, by decide⟩ (by decide) rfl (Nat.le_of_ble_eq_true rfl) (fun c1 σ1 => ?_) (fun ex σ1 => ?_)
  · refine k_i2l hk dL_run_8 ?_
    refine k_last_k (kk := 0) hk dL_run_9 rfl (by decide) (by decide) (by decide) (fun σ2 => ?_)
    refine k_goto hk dL_run_10 21 (by decide) ?_
    refine k_iconst (v := 0) hk dL_run_21 (by decide) ?_
    exact kh_ireturn hk he dL_run_22 (by decide)
  · refine kThr_ite (fun h0 => ?_) ?_
    · refine kThr_c hk he h0 [] { startPc := 0, endPc := 10, handlerPc := 13, catchType := 19 } [{ startPc := 0, endPc := 10, handlerPc := 17, catchType := 13 }] rfl (fun z hz => by cases hz) (by decide) (by decide) (kTB_mk (lwt4 (List.mem_of_getElem? (i := 37) rfl)) rfl) (by decide) (fun q9 => ?_)
      refine k_astore (lv' := [(4, .ref q9), (0, .ref (kad E 0 0)), (1, .int a1), (2, .int a2), (3, .ref (kad E 90 0))]) hk dL_run_13 (by decide) rfl ?_
      refine k_iconst (v := 1) hk dL_run_15 (by decide) ?_
      exact kh_ireturn hk he dL_run_16 (by decide)
    refine kThr_ite (fun h1 => ?_) ?_
    · refine kThr_c hk he h1 [{ startPc := 0, endPc := 10, handlerPc := 13, catchType := 19 }] { startPc := 0, endPc := 10, handlerPc := 17, catchType := 13 } [] rfl (fun z hz => by
      simp only [List.mem_cons, List.not_mem_nil, or_false] at hz
      rcases hz with rfl
      · exact ⟨by decide, by decide, "java/util/NoSuchElementException", kTB_mk (lwt4 (List.mem_of_getElem? (i := 37) rfl)) rfl, by decide⟩) (by decide) (by decide) (kTB_mk (lwt3 (List.mem_of_getElem? (i := 38) rfl)) rfl) (by decide) (fun q9 => ?_)
      refine k_astore (lv' := [(4, .ref q9), (0, .ref (kad E 0 0)), (1, .int a1), (2, .int a2), (3, .ref (kad E 90 0))]) hk dL_run_17 (by decide) rfl ?_
      refine k_iconst (v := 2) hk dL_run_19 (by decide) ?_
      exact kh_ireturn hk he dL_run_20 (by decide)
    exact kThr_no
def w_row (F : Nat) (a1 : Int32) (a2 : Int32) (a3 : Int32) (a4 : Int32) (a5 : Int32) (σ : kS) : Option kR := kBhi (f_X5_row F a1 a2 a3 a4 a5 σ) (fun c1 σ1 => kb (kUL σ1 90 0 0 c1.toInt64) fun σ2 => some (.inl (some (.int 0)), σ2)) (fun ex σ1 => if ex = "java/lang/IllegalArgumentException" then some (.inl (some (.int 1)), σ1) else (none))
set_option maxRecDepth 20000 in
theorem cw_row {l : Launch} {E : kE} (hj : kEj E) (hn : kNorm E) (hl : l.stackTraces = false) (F : Nat) (a1 : Int32) (a2 : Int32) (a3 : Int32) (a4 : Int32) (a5 : Int32) (σ : kS) : kMetH l E yL_row cL_row 8 (some .int) [(0, 16, 19, 13)] 11 209 8 [.ref (kad E 0 0), .int a1, .int a2, .int a3, .int a4, .int a5, .ref (kad E 90 0)] σ (w_row F a1 a2 a3 a4 a5 σ) := by
  refine k_metH hj hn hl (by decide) (Nat.le_of_ble_eq_true rfl) (fun C Q hk he hro => ?_)
  have hk : kOk (C, E, Q) cL_row RL 8 := hk
  show Sm (C, E, Q) 8 0 0 [(0, .ref (kad E 0 0)), (1, .int a1), (2, .int a2), (3, .int a3), (4, .int a4), (5, .int a5), (6, .ref (kad E 90 0))] [] σ _
  unfold w_row
  refine k_aload hk dL_row_0 6 rfl ?_
  refine k_iconst (v := 0) hk dL_row_2 (by decide) ?_
  refine k_aload_n hk dL_row_3 0 rfl ?_
  refine k_iload_n hk dL_row_4 1 rfl ?_
  refine k_iload_n hk dL_row_5 2 rfl ?_
  refine k_iload_n hk dL_row_6 3 rfl ?_
  refine k_iload hk dL_row_7 4 rfl ?_
  refine k_iload hk dL_row_9 5 rfl ?_
  refine k_callVHi (As := [.int a1, .int a2, .int a3, .int a4, .int a5]) (rest := [.int 0, .ref (kad E 90 0)]) hk hro (c_X5_row hj hn hl F a1 a2 a3 a4 a5 σ) dL_row_11 cw_RL_40 rfl (by decide) kc5 rfl ⟨by decide, by decide⟩ (by decide) rfl (Nat.le_of_ble_eq_true rfl) (fun c1 σ1 => ?_) (fun ex σ1 => ?_)
  · refine k_i2l hk dL_row_14 ?_
    refine k_last_k (kk := 0) hk dL_row_15 rfl (by decide) (by decide) (by decide) (fun σ2 => ?_)
    refine k_goto hk dL_row_16 23 (by decide) ?_
    refine k_iconst (v := 0) hk dL_row_23 (by decide) ?_
    exact kh_ireturn hk he dL_row_24 (by decide)
  · refine kThr_ite (fun h0 => ?_) ?_
    · refine kThr_c hk he h0 [] { startPc := 0, endPc := 16, handlerPc := 19, catchType := 13 } [] rfl (fun z hz => by cases hz) (by decide) (by decide) (kTB_mk (lwt3 (List.mem_of_getElem? (i := 38) rfl)) rfl) (by decide) (fun q9 => ?_)
      refine k_astore (lv' := [(7, .ref q9), (0, .ref (kad E 0 0)), (1, .int a1), (2, .int a2), (3, .int a3), (4, .int a4), (5, .int a5), (6, .ref (kad E 90 0))]) hk dL_row_19 (by decide) rfl ?_
      refine k_iconst (v := 1) hk dL_row_21 (by decide) ?_
      exact kh_ireturn hk he dL_row_22 (by decide)
    exact kThr_no
def w_asked (F : Nat) (a1 : Int32) (a2 : Int32) (σ : kS) : Option kR := kBhi (f_X5_asked F a1 a2 σ) (fun c1 σ1 => kb (kUL σ1 90 0 0 c1.toInt64) fun σ2 => some (.inl (some (.int 0)), σ2)) (fun ex σ1 => if ex = "java/lang/IndexOutOfBoundsException" then some (.inl (some (.int 1)), σ1) else (if ex = "java/lang/IllegalArgumentException" then some (.inl (some (.int 2)), σ1) else (none)))
set_option maxRecDepth 20000 in
theorem cw_asked {l : Launch} {E : kE} (hj : kEj E) (hn : kNorm E) (hl : l.stackTraces = false) (F : Nat) (a1 : Int32) (a2 : Int32) (σ : kS) : kMetH l E yL_asked cL_asked 5 (some .int) [(0, 10, 13, 27), (0, 10, 17, 13)] 10 184 2 [.ref (kad E 0 0), .int a1, .int a2, .ref (kad E 90 0)] σ (w_asked F a1 a2 σ) := by
  refine k_metH hj hn hl (by decide) (Nat.le_of_ble_eq_true rfl) (fun C Q hk he hro => ?_)
  have hk : kOk (C, E, Q) cL_asked RL 5 := hk
  show Sm (C, E, Q) 5 0 0 [(0, .ref (kad E 0 0)), (1, .int a1), (2, .int a2), (3, .ref (kad E 90 0))] [] σ _
  unfold w_asked
  refine k_aload_n hk dL_asked_0 3 rfl ?_
  refine k_iconst (v := 0) hk dL_asked_1 (by decide) ?_
  refine k_aload_n hk dL_asked_2 0 rfl ?_
  refine k_iload_n hk dL_asked_3 1 rfl ?_
  refine k_iload_n hk dL_asked_4 2 rfl ?_
  refine k_callVHi (As := [.int a1, .int a2]) (rest := [.int 0, .ref (kad E 90 0)]) hk hro (c_X5_asked hj hn hl F a1 a2 σ) dL_asked_5 cw_RL_44 rfl (by decide) kc5 rfl ⟨by decide, by decide⟩ (by decide) rfl (Nat.le_of_ble_eq_true rfl) (fun c1 σ1 => ?_) (fun ex σ1 => ?_)
  · refine k_i2l hk dL_asked_8 ?_
    refine k_last_k (kk := 0) hk dL_asked_9 rfl (by decide) (by decide) (by decide) (fun σ2 => ?_)
    refine k_goto hk dL_asked_10 21 (by decide) ?_
    refine k_iconst (v := 0) hk dL_asked_21 (by decide) ?_
    exact kh_ireturn hk he dL_asked_22 (by decide)
  · refine kThr_ite (fun h0 => ?_) ?_
    · refine kThr_c hk he h0 [] { startPc := 0, endPc := 10, handlerPc := 13, catchType := 27 } [{ startPc := 0, endPc := 10, handlerPc := 17, catchType := 13 }] rfl (fun z hz => by cases hz) (by decide) (by decide) (kTB_mk (lwt4 (List.mem_of_getElem? (i := 82) rfl)) rfl) (by decide) (fun q9 => ?_)
      refine k_astore (lv' := [(4, .ref q9), (0, .ref (kad E 0 0)), (1, .int a1), (2, .int a2), (3, .ref (kad E 90 0))]) hk dL_asked_13 (by decide) rfl ?_
      refine k_iconst (v := 1) hk dL_asked_15 (by decide) ?_
      exact kh_ireturn hk he dL_asked_16 (by decide)
    refine kThr_ite (fun h1 => ?_) ?_
    · refine kThr_c hk he h1 [{ startPc := 0, endPc := 10, handlerPc := 13, catchType := 27 }] { startPc := 0, endPc := 10, handlerPc := 17, catchType := 13 } [] rfl (fun z hz => by
      simp only [List.mem_cons, List.not_mem_nil, or_false] at hz
      rcases hz with rfl
      · exact ⟨by decide, by decide, "java/lang/IndexOutOfBoundsException", kTB_mk (lwt4 (List.mem_of_getElem? (i := 82) rfl)) rfl, by decide⟩) (by decide) (by decide) (kTB_mk (lwt3 (List.mem_of_getElem? (i := 38) rfl)) rfl) (by decide) (fun q9 => ?_)
      refine k_astore (lv' := [(4, .ref q9), (0, .ref (kad E 0 0)), (1, .int a1), (2, .int a2), (3, .ref (kad E 90 0))]) hk dL_asked_17 (by decide) rfl ?_
      refine k_iconst (v := 2) hk dL_asked_19 (by decide) ?_
      exact kh_ireturn hk he dL_asked_20 (by decide)
    exact kThr_no
def w_says (F : Nat) (a1 : Int32) (a2 : Int32) (σ : kS) : Option kR := kBhi (f_X5_says F a1 a2 σ) (fun c1 σ1 => if c1 = 0 then (kb (kUL σ1 90 0 0 0) fun σ2 => some (.inl (some (.int 0)), σ2)) else (kb (kUL σ1 90 0 0 1) fun σ2 => some (.inl (some (.int 0)), σ2))) (fun ex σ1 => if ex = "java/util/NoSuchElementException" then some (.inl (some (.int 1)), σ1) else (if ex = "java/lang/IndexOutOfBoundsException" then some (.inl (some (.int 2)), σ1) else (none)))
set_option maxRecDepth 20000 in
theorem cw_says {l : Launch} {E : kE} (hj : kEj E) (hn : kNorm E) (hl : l.stackTraces = false) (F : Nat) (a1 : Int32) (a2 : Int32) (σ : kS) : kMetH l E yL_says cL_says 5 (some .int) [(0, 17, 20, 19), (0, 17, 24, 27)] 10 183 2 [.ref (kad E 0 0), .int a1, .int a2, .ref (kad E 90 0)] σ (w_says F a1 a2 σ) := by
  refine k_metH hj hn hl (by decide) (Nat.le_of_ble_eq_true rfl) (fun C Q hk he hro => ?_)
  have hk : kOk (C, E, Q) cL_says RL 5 := hk
  show Sm (C, E, Q) 5 0 0 [(0, .ref (kad E 0 0)), (1, .int a1), (2, .int a2), (3, .ref (kad E 90 0))] [] σ _
  unfold w_says
  refine k_aload_n hk dL_says_0 3 rfl ?_
  refine k_iconst (v := 0) hk dL_says_1 (by decide) ?_
  refine k_aload_n hk dL_says_2 0 rfl ?_
  refine k_iload_n hk dL_says_3 1 rfl ?_
  refine k_iload_n hk dL_says_4 2 rfl ?_
  refine k_callVHi (As := [.int a1, .int a2]) (rest := [.int 0, .ref (kad E 90 0)]) hk hro (c_X5_says hj hn hl F a1 a2 σ) dL_says_5 cw_RL_47 rfl (by decide) kc5 rfl ⟨by decide, by decide⟩ (by decide) rfl (Nat.le_of_ble_eq_true rfl) (fun c1 σ1 => ?_) (fun ex σ1 => ?_)
  · refine k_if_eq hk dL_says_8 15 (by decide) (fun h1 => ?_) (fun h1 => ?_)
    · refine k_lconst (v := 0) hk dL_says_15 (by decide) ?_
      refine k_last_k (kk := 0) hk dL_says_16 rfl (by decide) (by decide) (by decide) (fun σ2 => ?_)
      refine k_goto hk dL_says_17 28 (by decide) ?_
      refine k_iconst (v := 0) hk dL_says_28 (by decide) ?_
      exact kh_ireturn hk he dL_says_29 (by decide)
    · refine k_lconst (v := 1) hk dL_says_11 (by decide) ?_
      refine k_goto hk dL_says_12 16 (by decide) ?_
      refine k_last_k (kk := 0) hk dL_says_16 rfl (by decide) (by decide) (by decide) (fun σ2 => ?_)
      refine k_goto hk dL_says_17 28 (by decide) ?_
      refine k_iconst (v := 0) hk dL_says_28 (by decide) ?_
      exact kh_ireturn hk he dL_says_29 (by decide)
  · refine kThr_ite (fun h0 => ?_) ?_
    · refine kThr_c hk he h0 [] { startPc := 0, endPc := 17, handlerPc := 20, catchType := 19 } [{ startPc := 0, endPc := 17, handlerPc := 24, catchType := 27 }] rfl (fun z hz => by cases hz) (by decide) (by decide) (kTB_mk (lwt4 (List.mem_of_getElem? (i := 37) rfl)) rfl) (by decide) (fun q9 => ?_)
      refine k_astore (lv' := [(4, .ref q9), (0, .ref (kad E 0 0)), (1, .int a1), (2, .int a2), (3, .ref (kad E 90 0))]) hk dL_says_20 (by decide) rfl ?_
      refine k_iconst (v := 1) hk dL_says_22 (by decide) ?_
      exact kh_ireturn hk he dL_says_23 (by decide)
    refine kThr_ite (fun h1 => ?_) ?_
    · refine kThr_c hk he h1 [{ startPc := 0, endPc := 17, handlerPc := 20, catchType := 19 }] { startPc := 0, endPc := 17, handlerPc := 24, catchType := 27 } [] rfl (fun z hz => by
      simp only [List.mem_cons, List.not_mem_nil, or_false] at hz
      rcases hz with rfl
      · exact ⟨by decide, by decide, "java/util/NoSuchElementException", kTB_mk (lwt4 (List.mem_of_getElem? (i := 37) rfl)) rfl, by decide⟩) (by decide) (by decide) (kTB_mk (lwt4 (List.mem_of_getElem? (i := 82) rfl)) rfl) (by decide) (fun q9 => ?_)
      refine k_astore (lv' := [(4, .ref q9), (0, .ref (kad E 0 0)), (1, .int a1), (2, .int a2), (3, .ref (kad E 90 0))]) hk dL_says_24 (by decide) rfl ?_
      refine k_iconst (v := 2) hk dL_says_26 (by decide) ?_
      exact kh_ireturn hk he dL_says_27 (by decide)
    exact kThr_no
def w_odds (F : Nat) (a1 : Int32) (σ : kS) : Option kR := kBhl (f_X5_odds F a1 σ) (fun c1 σ1 => kb (kUL σ1 90 0 0 c1) fun σ2 => some (.inl (some (.int 0)), σ2)) (fun ex σ1 => if ex = "java/util/NoSuchElementException" then some (.inl (some (.int 1)), σ1) else (none))
set_option maxRecDepth 20000 in
theorem cw_odds {l : Launch} {E : kE} (hj : kEj E) (hn : kNorm E) (hl : l.stackTraces = false) (F : Nat) (a1 : Int32) (σ : kS) : kMetH l E yL_odds cL_odds 4 (some .int) [(0, 8, 11, 19)] 10 187 1 [.ref (kad E 0 0), .int a1, .ref (kad E 90 0)] σ (w_odds F a1 σ) := by
  refine k_metH hj hn hl (by decide) (Nat.le_of_ble_eq_true rfl) (fun C Q hk he hro => ?_)
  have hk : kOk (C, E, Q) cL_odds RL 4 := hk
  show Sm (C, E, Q) 4 0 0 [(0, .ref (kad E 0 0)), (1, .int a1), (2, .ref (kad E 90 0))] [] σ _
  unfold w_odds
  refine k_aload_n hk dL_odds_0 2 rfl ?_
  refine k_iconst (v := 0) hk dL_odds_1 (by decide) ?_
  refine k_aload_n hk dL_odds_2 0 rfl ?_
  refine k_iload_n hk dL_odds_3 1 rfl ?_
  refine k_callVHl (As := [.int a1]) (rest := [.int 0, .ref (kad E 90 0)]) hk hro (c_X5_odds hj hn hl F a1 σ) dL_odds_4 cw_RL_51 rfl (by decide) kc5 rfl ⟨by decide, by decide⟩ (by decide) rfl (Nat.le_of_ble_eq_true rfl) (fun c1 σ1 => ?_) (fun ex σ1 => ?_)
  · refine k_last_k (kk := 0) hk dL_odds_7 rfl (by decide) (by decide) (by decide) (fun σ2 => ?_)
    refine k_goto hk dL_odds_8 14 (by decide) ?_
    refine k_iconst (v := 0) hk dL_odds_14 (by decide) ?_
    exact kh_ireturn hk he dL_odds_15 (by decide)
  · refine kThr_ite (fun h0 => ?_) ?_
    · refine kThr_c hk he h0 [] { startPc := 0, endPc := 8, handlerPc := 11, catchType := 19 } [] rfl (fun z hz => by cases hz) (by decide) (by decide) (kTB_mk (lwt4 (List.mem_of_getElem? (i := 37) rfl)) rfl) (by decide) (fun q9 => ?_)
      refine k_astore_n (lv' := [(3, .ref q9), (0, .ref (kad E 0 0)), (1, .int a1), (2, .ref (kad E 90 0))]) hk dL_odds_11 (by decide) rfl ?_
      refine k_iconst (v := 1) hk dL_odds_12 (by decide) ?_
      exact kh_ireturn hk he dL_odds_13 (by decide)
    exact kThr_no
def w_share (F : Nat) (a1 : Int32) (σ : kS) : Option kR := kBhi (f_X5_share F a1 σ) (fun c1 σ1 => kb (kUL σ1 90 0 0 c1.toInt64) fun σ2 => some (.inl (some (.int 0)), σ2)) (fun ex σ1 => if ex = "java/util/NoSuchElementException" then some (.inl (some (.int 1)), σ1) else (none))
set_option maxRecDepth 20000 in
theorem cw_share {l : Launch} {E : kE} (hj : kEj E) (hn : kNorm E) (hl : l.stackTraces = false) (F : Nat) (a1 : Int32) (σ : kS) : kMetH l E yL_share cL_share 4 (some .int) [(0, 9, 12, 19)] 10 187 1 [.ref (kad E 0 0), .int a1, .ref (kad E 90 0)] σ (w_share F a1 σ) := by
  refine k_metH hj hn hl (by decide) (Nat.le_of_ble_eq_true rfl) (fun C Q hk he hro => ?_)
  have hk : kOk (C, E, Q) cL_share RL 4 := hk
  show Sm (C, E, Q) 4 0 0 [(0, .ref (kad E 0 0)), (1, .int a1), (2, .ref (kad E 90 0))] [] σ _
  unfold w_share
  refine k_aload_n hk dL_share_0 2 rfl ?_
  refine k_iconst (v := 0) hk dL_share_1 (by decide) ?_
  refine k_aload_n hk dL_share_2 0 rfl ?_
  refine k_iload_n hk dL_share_3 1 rfl ?_
  refine k_callVHi (As := [.int a1]) (rest := [.int 0, .ref (kad E 90 0)]) hk hro (c_X5_share hj hn hl F a1 σ) dL_share_4 cw_RL_55 rfl (by decide) kc5 rfl ⟨by decide, by decide⟩ (by decide) rfl (Nat.le_of_ble_eq_true rfl) (fun c1 σ1 => ?_) (fun ex σ1 => ?_)
  · refine k_i2l hk dL_share_7 ?_
    refine k_last_k (kk := 0) hk dL_share_8 rfl (by decide) (by decide) (by decide) (fun σ2 => ?_)
    refine k_goto hk dL_share_9 15 (by decide) ?_
    refine k_iconst (v := 0) hk dL_share_15 (by decide) ?_
    exact kh_ireturn hk he dL_share_16 (by decide)
  · refine kThr_ite (fun h0 => ?_) ?_
    · refine kThr_c hk he h0 [] { startPc := 0, endPc := 9, handlerPc := 12, catchType := 19 } [] rfl (fun z hz => by cases hz) (by decide) (by decide) (kTB_mk (lwt4 (List.mem_of_getElem? (i := 37) rfl)) rfl) (by decide) (fun q9 => ?_)
      refine k_astore_n (lv' := [(3, .ref q9), (0, .ref (kad E 0 0)), (1, .int a1), (2, .ref (kad E 90 0))]) hk dL_share_12 (by decide) rfl ?_
      refine k_iconst (v := 1) hk dL_share_13 (by decide) ?_
      exact kh_ireturn hk he dL_share_14 (by decide)
    exact kThr_no
def w_moved (F : Nat) (a1 : Int32) (a2 : Int32) (σ : kS) : Option kR := kBhi (f_X5_moved F a1 a2 σ) (fun c1 σ1 => kb (kUL σ1 90 0 0 c1.toInt64) fun σ2 => some (.inl (some (.int 0)), σ2)) (fun ex σ1 => if ex = "java/util/NoSuchElementException" then some (.inl (some (.int 1)), σ1) else (if ex = "java/lang/IndexOutOfBoundsException" then some (.inl (some (.int 2)), σ1) else (none)))
set_option maxRecDepth 20000 in
theorem cw_moved {l : Launch} {E : kE} (hj : kEj E) (hn : kNorm E) (hl : l.stackTraces = false) (F : Nat) (a1 : Int32) (a2 : Int32) (σ : kS) : kMetH l E yL_moved cL_moved 5 (some .int) [(0, 10, 13, 19), (0, 10, 17, 27)] 10 190 2 [.ref (kad E 0 0), .int a1, .int a2, .ref (kad E 90 0)] σ (w_moved F a1 a2 σ) := by
  refine k_metH hj hn hl (by decide) (Nat.le_of_ble_eq_true rfl) (fun C Q hk he hro => ?_)
  have hk : kOk (C, E, Q) cL_moved RL 5 := hk
  show Sm (C, E, Q) 5 0 0 [(0, .ref (kad E 0 0)), (1, .int a1), (2, .int a2), (3, .ref (kad E 90 0))] [] σ _
  unfold w_moved
  refine k_aload_n hk dL_moved_0 3 rfl ?_
  refine k_iconst (v := 0) hk dL_moved_1 (by decide) ?_
  refine k_aload_n hk dL_moved_2 0 rfl ?_
  refine k_iload_n hk dL_moved_3 1 rfl ?_
  refine k_iload_n hk dL_moved_4 2 rfl ?_
  refine k_callVHi (As := [.int a1, .int a2]) (rest := [.int 0, .ref (kad E 90 0)]) hk hro (c_X5_moved hj hn hl F a1 a2 σ) dL_moved_5 cw_RL_58 rfl (by decide) kc5 rfl ⟨by decide, by decide⟩ (by decide) rfl (Nat.le_of_ble_eq_true rfl) (fun c1 σ1 => ?_) (fun ex σ1 => ?_)
  · refine k_i2l hk dL_moved_8 ?_
    refine k_last_k (kk := 0) hk dL_moved_9 rfl (by decide) (by decide) (by decide) (fun σ2 => ?_)
    refine k_goto hk dL_moved_10 21 (by decide) ?_
    refine k_iconst (v := 0) hk dL_moved_21 (by decide) ?_
    exact kh_ireturn hk he dL_moved_22 (by decide)
  · refine kThr_ite (fun h0 => ?_) ?_
    · refine kThr_c hk he h0 [] { startPc := 0, endPc := 10, handlerPc := 13, catchType := 19 } [{ startPc := 0, endPc := 10, handlerPc := 17, catchType := 27 }] rfl (fun z hz => by cases hz) (by decide) (by decide) (kTB_mk (lwt4 (List.mem_of_getElem? (i := 37) rfl)) rfl) (by decide) (fun q9 => ?_)
      refine k_astore (lv' := [(4, .ref q9), (0, .ref (kad E 0 0)), (1, .int a1), (2, .int a2), (3, .ref (kad E 90 0))]) hk dL_moved_13 (by decide) rfl ?_
      refine k_iconst (v := 1) hk dL_moved_15 (by decide) ?_
      exact kh_ireturn hk he dL_moved_16 (by decide)
    refine kThr_ite (fun h1 => ?_) ?_
    · refine kThr_c hk he h1 [{ startPc := 0, endPc := 10, handlerPc := 13, catchType := 19 }] { startPc := 0, endPc := 10, handlerPc := 17, catchType := 27 } [] rfl (fun z hz => by
      simp only [List.mem_cons, List.not_mem_nil, or_false] at hz
      rcases hz with rfl
      · exact ⟨by decide, by decide, "java/util/NoSuchElementException", kTB_mk (lwt4 (List.mem_of_getElem? (i := 37) rfl)) rfl, by decide⟩) (by decide) (by decide) (kTB_mk (lwt4 (List.mem_of_getElem? (i := 82) rfl)) rfl) (by decide) (fun q9 => ?_)
      refine k_astore (lv' := [(4, .ref q9), (0, .ref (kad E 0 0)), (1, .int a1), (2, .int a2), (3, .ref (kad E 90 0))]) hk dL_moved_17 (by decide) rfl ?_
      refine k_iconst (v := 2) hk dL_moved_19 (by decide) ?_
      exact kh_ireturn hk he dL_moved_20 (by decide)
    exact kThr_no
def w_inquiry (F : Nat) (a1 : Int32) (a2 : Int32) (σ : kS) : Option kR := kBhi (f_X5_inquiry F a1 a2 σ) (fun c1 σ1 => kb (kUL σ1 90 0 0 c1.toInt64) fun σ2 => some (.inl (some (.int 0)), σ2)) (fun ex σ1 => if ex = "java/util/NoSuchElementException" then some (.inl (some (.int 1)), σ1) else (if ex = "java/lang/IllegalArgumentException" then some (.inl (some (.int 2)), σ1) else (none)))
set_option maxRecDepth 20000 in
theorem cw_inquiry {l : Launch} {E : kE} (hj : kEj E) (hn : kNorm E) (hl : l.stackTraces = false) (F : Nat) (a1 : Int32) (a2 : Int32) (σ : kS) : kMetH l E yL_inquiry cL_inquiry 5 (some .int) [(0, 10, 13, 19), (0, 10, 17, 13)] 10 190 2 [.ref (kad E 0 0), .int a1, .int a2, .ref (kad E 90 0)] σ (w_inquiry F a1 a2 σ) := by
  refine k_metH hj hn hl (by decide) (Nat.le_of_ble_eq_true rfl) (fun C Q hk he hro => ?_)
  have hk : kOk (C, E, Q) cL_inquiry RL 5 := hk
  show Sm (C, E, Q) 5 0 0 [(0, .ref (kad E 0 0)), (1, .int a1), (2, .int a2), (3, .ref (kad E 90 0))] [] σ _
  unfold w_inquiry
  refine k_aload_n hk dL_inquiry_0 3 rfl ?_
  refine k_iconst (v := 0) hk dL_inquiry_1 (by decide) ?_
  refine k_aload_n hk dL_inquiry_2 0 rfl ?_
  refine k_iload_n hk dL_inquiry_3 1 rfl ?_
  refine k_iload_n hk dL_inquiry_4 2 rfl ?_
  refine k_callVHi (As := [.int a1, .int a2]) (rest := [.int 0, .ref (kad E 90 0)]) hk hro (c_X5_inquiry hj hn hl F a1 a2 σ) dL_inquiry_5 cw_RL_61 rfl (by decide) kc5 rfl ⟨by decide, by decide⟩ (by decide) rfl (Nat.le_of_ble_eq_true rfl) (fun c1 σ1 => ?_) (fun ex σ1 => ?_)
  · refine k_i2l hk dL_inquiry_8 ?_
    refine k_last_k (kk := 0) hk dL_inquiry_9 rfl (by decide) (by decide) (by decide) (fun σ2 => ?_)
    refine k_goto hk dL_inquiry_10 21 (by decide) ?_
    refine k_iconst (v := 0) hk dL_inquiry_21 (by decide) ?_
    exact kh_ireturn hk he dL_inquiry_22 (by decide)
  · refine kThr_ite (fun h0 => ?_) ?_
    · refine kThr_c hk he h0 [] { startPc := 0, endPc := 10, handlerPc := 13, catchType := 19 } [{ startPc := 0, endPc := 10, handlerPc := 17, catchType := 13 }] rfl (fun z hz => by cases hz) (by decide) (by decide) (kTB_mk (lwt4 (List.mem_of_getElem? (i := 37) rfl)) rfl) (by decide) (fun q9 => ?_)
      refine k_astore (lv' := [(4, .ref q9), (0, .ref (kad E 0 0)), (1, .int a1), (2, .int a2), (3, .ref (kad E 90 0))]) hk dL_inquiry_13 (by decide) rfl ?_
      refine k_iconst (v := 1) hk dL_inquiry_15 (by decide) ?_
      exact kh_ireturn hk he dL_inquiry_16 (by decide)
    refine kThr_ite (fun h1 => ?_) ?_
    · refine kThr_c hk he h1 [{ startPc := 0, endPc := 10, handlerPc := 13, catchType := 19 }] { startPc := 0, endPc := 10, handlerPc := 17, catchType := 13 } [] rfl (fun z hz => by
      simp only [List.mem_cons, List.not_mem_nil, or_false] at hz
      rcases hz with rfl
      · exact ⟨by decide, by decide, "java/util/NoSuchElementException", kTB_mk (lwt4 (List.mem_of_getElem? (i := 37) rfl)) rfl, by decide⟩) (by decide) (by decide) (kTB_mk (lwt3 (List.mem_of_getElem? (i := 38) rfl)) rfl) (by decide) (fun q9 => ?_)
      refine k_astore (lv' := [(4, .ref q9), (0, .ref (kad E 0 0)), (1, .int a1), (2, .int a2), (3, .ref (kad E 90 0))]) hk dL_inquiry_17 (by decide) rfl ?_
      refine k_iconst (v := 2) hk dL_inquiry_19 (by decide) ?_
      exact kh_ireturn hk he dL_inquiry_20 (by decide)
    exact kThr_no
def w_before (F : Nat) (a1 : Int32) (a2 : Int32) (σ : kS) : Option kR := kBhi (f_X5_before F a1 a2 σ) (fun c1 σ1 => kb (kUL σ1 90 0 0 c1.toInt64) fun σ2 => some (.inl (some (.int 0)), σ2)) (fun ex σ1 => if ex = "java/lang/IllegalArgumentException" then some (.inl (some (.int 1)), σ1) else (none))
set_option maxRecDepth 20000 in
theorem cw_before {l : Launch} {E : kE} (hj : kEj E) (hn : kNorm E) (hl : l.stackTraces = false) (F : Nat) (a1 : Int32) (a2 : Int32) (σ : kS) : kMetH l E yL_before cL_before 5 (some .int) [(0, 10, 13, 13)] 10 184 2 [.ref (kad E 0 0), .int a1, .int a2, .ref (kad E 90 0)] σ (w_before F a1 a2 σ) := by
  refine k_metH hj hn hl (by decide) (Nat.le_of_ble_eq_true rfl) (fun C Q hk he hro => ?_)
  have hk : kOk (C, E, Q) cL_before RL 5 := hk
  show Sm (C, E, Q) 5 0 0 [(0, .ref (kad E 0 0)), (1, .int a1), (2, .int a2), (3, .ref (kad E 90 0))] [] σ _
  unfold w_before
  refine k_aload_n hk dL_before_0 3 rfl ?_
  refine k_iconst (v := 0) hk dL_before_1 (by decide) ?_
  refine k_aload_n hk dL_before_2 0 rfl ?_
  refine k_iload_n hk dL_before_3 1 rfl ?_
  refine k_iload_n hk dL_before_4 2 rfl ?_
  refine k_callVHi (As := [.int a1, .int a2]) (rest := [.int 0, .ref (kad E 90 0)]) hk hro (c_X5_before hj hn hl F a1 a2 σ) dL_before_5 cw_RL_64 rfl (by decide) kc5 rfl ⟨by decide, by decide⟩ (by decide) rfl (Nat.le_of_ble_eq_true rfl) (fun c1 σ1 => ?_) (fun ex σ1 => ?_)
  · refine k_i2l hk dL_before_8 ?_
    refine k_last_k (kk := 0) hk dL_before_9 rfl (by decide) (by decide) (by decide) (fun σ2 => ?_)
    refine k_goto hk dL_before_10 17 (by decide) ?_
    refine k_iconst (v := 0) hk dL_before_17 (by decide) ?_
    exact kh_ireturn hk he dL_before_18 (by decide)
  · refine kThr_ite (fun h0 => ?_) ?_
    · refine kThr_c hk he h0 [] { startPc := 0, endPc := 10, handlerPc := 13, catchType := 13 } [] rfl (fun z hz => by cases hz) (by decide) (by decide) (kTB_mk (lwt3 (List.mem_of_getElem? (i := 38) rfl)) rfl) (by decide) (fun q9 => ?_)
      refine k_astore (lv' := [(4, .ref q9), (0, .ref (kad E 0 0)), (1, .int a1), (2, .int a2), (3, .ref (kad E 90 0))]) hk dL_before_13 (by decide) rfl ?_
      refine k_iconst (v := 1) hk dL_before_15 (by decide) ?_
      exact kh_ireturn hk he dL_before_16 (by decide)
    exact kThr_no
def w_burnt (F : Nat) (a1 : Int32) (σ : kS) : Option kR := kBhi (f_X5_burnt F a1 σ) (fun c1 σ1 => kb (kUL σ1 90 0 0 c1.toInt64) fun σ2 => some (.inl (some (.int 0)), σ2)) (fun ex σ1 => if ex = "java/util/NoSuchElementException" then some (.inl (some (.int 1)), σ1) else (none))
set_option maxRecDepth 20000 in
theorem cw_burnt {l : Launch} {E : kE} (hj : kEj E) (hn : kNorm E) (hl : l.stackTraces = false) (F : Nat) (a1 : Int32) (σ : kS) : kMetH l E yL_burnt cL_burnt 4 (some .int) [(0, 9, 12, 19)] 10 182 1 [.ref (kad E 0 0), .int a1, .ref (kad E 90 0)] σ (w_burnt F a1 σ) := by
  refine k_metH hj hn hl (by decide) (Nat.le_of_ble_eq_true rfl) (fun C Q hk he hro => ?_)
  have hk : kOk (C, E, Q) cL_burnt RL 4 := hk
  show Sm (C, E, Q) 4 0 0 [(0, .ref (kad E 0 0)), (1, .int a1), (2, .ref (kad E 90 0))] [] σ _
  unfold w_burnt
  refine k_aload_n hk dL_burnt_0 2 rfl ?_
  refine k_iconst (v := 0) hk dL_burnt_1 (by decide) ?_
  refine k_aload_n hk dL_burnt_2 0 rfl ?_
  refine k_iload_n hk dL_burnt_3 1 rfl ?_
  refine k_callVHi (As := [.int a1]) (rest := [.int 0, .ref (kad E 90 0)]) hk hro (c_X5_burnt hj hn hl F a1 σ) dL_burnt_4 cw_RL_67 rfl (by decide) kc5 rfl ⟨by decide, by decide⟩ (by decide) rfl (Nat.le_of_ble_eq_true rfl) (fun c1 σ1 => ?_) (fun ex σ1 => ?_)
  · refine k_i2l hk dL_burnt_7 ?_
    refine k_last_k (kk := 0) hk dL_burnt_8 rfl (by decide) (by decide) (by decide) (fun σ2 => ?_)
    refine k_goto hk dL_burnt_9 15 (by decide) ?_
    refine k_iconst (v := 0) hk dL_burnt_15 (by decide) ?_
    exact kh_ireturn hk he dL_burnt_16 (by decide)
  · refine kThr_ite (fun h0 => ?_) ?_
    · refine kThr_c hk he h0 [] { startPc := 0, endPc := 9, handlerPc := 12, catchType := 19 } [] rfl (fun z hz => by cases hz) (by decide) (by decide) (kTB_mk (lwt4 (List.mem_of_getElem? (i := 37) rfl)) rfl) (by decide) (fun q9 => ?_)
      refine k_astore_n (lv' := [(3, .ref q9), (0, .ref (kad E 0 0)), (1, .int a1), (2, .ref (kad E 90 0))]) hk dL_burnt_12 (by decide) rfl ?_
      refine k_iconst (v := 1) hk dL_burnt_13 (by decide) ?_
      exact kh_ireturn hk he dL_burnt_14 (by decide)
    exact kThr_no
def w_option (F : Nat) (a1 : Int32) (a2 : Int32) (a3 : Int32) (σ : kS) : Option kR := kBhi (f_X5_option F a1 a2 a3 σ) (fun c1 σ1 => kb (kUL σ1 90 0 0 c1.toInt64) fun σ2 => some (.inl (some (.int 0)), σ2)) (fun ex σ1 => if ex = "java/lang/IllegalArgumentException" then some (.inl (some (.int 1)), σ1) else (none))
set_option maxRecDepth 20000 in
theorem cw_option {l : Launch} {E : kE} (hj : kEj E) (hn : kNorm E) (hl : l.stackTraces = false) (F : Nat) (a1 : Int32) (a2 : Int32) (a3 : Int32) (σ : kS) : kMetH l E yL_option cL_option 6 (some .int) [(0, 12, 15, 13)] 10 186 2 [.ref (kad E 0 0), .int a1, .int a2, .int a3, .ref (kad E 90 0)] σ (w_option F a1 a2 a3 σ) := by
  refine k_metH hj hn hl (by decide) (Nat.le_of_ble_eq_true rfl) (fun C Q hk he hro => ?_)
  have hk : kOk (C, E, Q) cL_option RL 6 := hk
  show Sm (C, E, Q) 6 0 0 [(0, .ref (kad E 0 0)), (1, .int a1), (2, .int a2), (3, .int a3), (4, .ref (kad E 90 0))] [] σ _
  unfold w_option
  refine k_aload hk dL_option_0 4 rfl ?_
  refine k_iconst (v := 0) hk dL_option_2 (by decide) ?_
  refine k_aload_n hk dL_option_3 0 rfl ?_
  refine k_iload_n hk dL_option_4 1 rfl ?_
  refine k_iload_n hk dL_option_5 2 rfl ?_
  refine k_iload_n hk dL_option_6 3 rfl ?_
  refine k_callVHi (As := [.int a1, .int a2, .int a3]) (rest := [.int 0, .ref (kad E 90 0)]) hk hro (c_X5_option hj hn hl F a1 a2 a3 σ) dL_option_7 cw_RL_70 rfl (by decide) kc5 rfl ⟨by decide, by decide⟩ (by decide) rfl (Nat.le_of_ble_eq_true rfl) (fun c1 σ1 => ?_) (fun ex σ1 => ?_)
  · refine k_i2l hk dL_option_10 ?_
    refine k_last_k (kk := 0) hk dL_option_11 rfl (by decide) (by decide) (by decide) (fun σ2 => ?_)
    refine k_goto hk dL_option_12 19 (by decide) ?_
    refine k_iconst (v := 0) hk dL_option_19 (by decide) ?_
    exact kh_ireturn hk he dL_option_20 (by decide)
  · refine kThr_ite (fun h0 => ?_) ?_
    · refine kThr_c hk he h0 [] { startPc := 0, endPc := 12, handlerPc := 15, catchType := 13 } [] rfl (fun z hz => by cases hz) (by decide) (by decide) (kTB_mk (lwt3 (List.mem_of_getElem? (i := 38) rfl)) rfl) (by decide) (fun q9 => ?_)
      refine k_astore (lv' := [(5, .ref q9), (0, .ref (kad E 0 0)), (1, .int a1), (2, .int a2), (3, .int a3), (4, .ref (kad E 90 0))]) hk dL_option_15 (by decide) rfl ?_
      refine k_iconst (v := 1) hk dL_option_17 (by decide) ?_
      exact kh_ireturn hk he dL_option_18 (by decide)
    exact kThr_no
def w_safe (F : Nat) (a1 : Int32) (a2 : Int32) (a3 : Int32) (σ : kS) : Option kR := kBhi (f_X5_safe F a1 a2 a3 σ) (fun c1 σ1 => if c1 = 0 then (kb (kUL σ1 90 0 0 0) fun σ2 => some (.inl (some (.int 0)), σ2)) else (kb (kUL σ1 90 0 0 1) fun σ2 => some (.inl (some (.int 0)), σ2))) (fun ex σ1 => if ex = "java/util/NoSuchElementException" then some (.inl (some (.int 1)), σ1) else (if ex = "java/lang/IllegalArgumentException" then some (.inl (some (.int 2)), σ1) else (none)))
set_option maxRecDepth 20000 in
theorem cw_safe {l : Launch} {E : kE} (hj : kEj E) (hn : kNorm E) (hl : l.stackTraces = false) (F : Nat) (a1 : Int32) (a2 : Int32) (a3 : Int32) (σ : kS) : kMetH l E yL_safe cL_safe 6 (some .int) [(0, 19, 22, 19), (0, 19, 26, 13)] 10 185 3 [.ref (kad E 0 0), .int a1, .int a2, .int a3, .ref (kad E 90 0)] σ (w_safe F a1 a2 a3 σ) := by
  refine k_metH hj hn hl (by decide) (Nat.le_of_ble_eq_true rfl) (fun C Q hk he hro => ?_)
  have hk : kOk (C, E, Q) cL_safe RL 6 := hk
  show Sm (C, E, Q) 6 0 0 [(0, .ref (kad E 0 0)), (1, .int a1), (2, .int a2), (3, .int a3), (4, .ref (kad E 90 0))] [] σ _
  unfold w_safe
  refine k_aload hk dL_safe_0 4 rfl ?_
  refine k_iconst (v := 0) hk dL_safe_2 (by decide) ?_
  refine k_aload_n hk dL_safe_3 0 rfl ?_
  refine k_iload_n hk dL_safe_4 1 rfl ?_
  refine k_iload_n hk dL_safe_5 2 rfl ?_
  refine k_iload_n hk dL_safe_6 3 rfl ?_
  refine k_callVHi (As := [.int a1, .int a2, .int a3]) (rest := [.int 0, .ref (kad E 90 0)]) hk hro (c_X5_safe hj hn hl F a1 a2 a3 σ) dL_safe_7 cw_RL_73 rfl (by decide) kc5 rfl ⟨by decide, by decide⟩ (by decide) rfl (Nat.le_of_ble_eq_true rfl) (fun c1 σ1 => ?_) (fun ex σ1 => ?_)
  · refine k_if_eq hk dL_safe_10 17 (by decide) (fun h1 => ?_) (fun h1 => ?_)
    · refine k_lconst (v := 0) hk dL_safe_17 (by decide) ?_
      refine k_last_k (kk := 0) hk dL_safe_18 rfl (by decide) (by decide) (by decide) (fun σ2 => ?_)
      refine k_goto hk dL_safe_19 30 (by decide) ?_
      refine k_iconst (v := 0) hk dL_safe_30 (by decide) ?_
      exact kh_ireturn hk he dL_safe_31 (by decide)
    · refine k_lconst (v := 1) hk dL_safe_13 (by decide) ?_
      refine k_goto hk dL_safe_14 18 (by decide) ?_
      refine k_last_k (kk := 0) hk dL_safe_18 rfl (by decide) (by decide) (by decide) (fun σ2 => ?_)
      refine k_goto hk dL_safe_19 30 (by decide) ?_
      refine k_iconst (v := 0) hk dL_safe_30 (by decide) ?_
      exact kh_ireturn hk he dL_safe_31 (by decide)
  · refine kThr_ite (fun h0 => ?_) ?_
    · refine kThr_c hk he h0 [] { startPc := 0, endPc := 19, handlerPc := 22, catchType := 19 } [{ startPc := 0, endPc := 19, handlerPc := 26, catchType := 13 }] rfl (fun z hz => by cases hz) (by decide) (by decide) (kTB_mk (lwt4 (List.mem_of_getElem? (i := 37) rfl)) rfl) (by decide) (fun q9 => ?_)
      refine k_astore (lv' := [(5, .ref q9), (0, .ref (kad E 0 0)), (1, .int a1), (2, .int a2), (3, .int a3), (4, .ref (kad E 90 0))]) hk dL_safe_22 (by decide) rfl ?_
      refine k_iconst (v := 1) hk dL_safe_24 (by decide) ?_
      exact kh_ireturn hk he dL_safe_25 (by decide)
    refine kThr_ite (fun h1 => ?_) ?_
    · refine kThr_c hk he h1 [{ startPc := 0, endPc := 19, handlerPc := 22, catchType := 19 }] { startPc := 0, endPc := 19, handlerPc := 26, catchType := 13 } [] rfl (fun z hz => by
      simp only [List.mem_cons, List.not_mem_nil, or_false] at hz
      rcases hz with rfl
      · exact ⟨by decide, by decide, "java/util/NoSuchElementException", kTB_mk (lwt4 (List.mem_of_getElem? (i := 37) rfl)) rfl, by decide⟩) (by decide) (by decide) (kTB_mk (lwt3 (List.mem_of_getElem? (i := 38) rfl)) rfl) (by decide) (fun q9 => ?_)
      refine k_astore (lv' := [(5, .ref q9), (0, .ref (kad E 0 0)), (1, .int a1), (2, .int a2), (3, .int a3), (4, .ref (kad E 90 0))]) hk dL_safe_26 (by decide) rfl ?_
      refine k_iconst (v := 2) hk dL_safe_28 (by decide) ?_
      exact kh_ireturn hk he dL_safe_29 (by decide)
    exact kThr_no
def w_least (F : Nat) (a1 : Int32) (a2 : Int32) (σ : kS) : Option kR := kBhi (f_X5_least F a1 a2 σ) (fun c1 σ1 => kb (kUL σ1 90 0 0 c1.toInt64) fun σ2 => some (.inl (some (.int 0)), σ2)) (fun ex σ1 => if ex = "java/util/NoSuchElementException" then some (.inl (some (.int 1)), σ1) else (if ex = "java/lang/IllegalArgumentException" then some (.inl (some (.int 2)), σ1) else (none)))
set_option maxRecDepth 20000 in
theorem cw_least {l : Launch} {E : kE} (hj : kEj E) (hn : kNorm E) (hl : l.stackTraces = false) (F : Nat) (a1 : Int32) (a2 : Int32) (σ : kS) : kMetH l E yL_least cL_least 5 (some .int) [(0, 10, 13, 19), (0, 10, 17, 13)] 10 188 2 [.ref (kad E 0 0), .int a1, .int a2, .ref (kad E 90 0)] σ (w_least F a1 a2 σ) := by
  refine k_metH hj hn hl (by decide) (Nat.le_of_ble_eq_true rfl) (fun C Q hk he hro => ?_)
  have hk : kOk (C, E, Q) cL_least RL 5 := hk
  show Sm (C, E, Q) 5 0 0 [(0, .ref (kad E 0 0)), (1, .int a1), (2, .int a2), (3, .ref (kad E 90 0))] [] σ _
  unfold w_least
  refine k_aload_n hk dL_least_0 3 rfl ?_
  refine k_iconst (v := 0) hk dL_least_1 (by decide) ?_
  refine k_aload_n hk dL_least_2 0 rfl ?_
  refine k_iload_n hk dL_least_3 1 rfl ?_
  refine k_iload_n hk dL_least_4 2 rfl ?_
  refine k_callVHi (As := [.int a1, .int a2]) (rest := [.int 0, .ref (kad E 90 0)]) hk hro (c_X5_least hj hn hl F a1 a2 σ) dL_least_5 cw_RL_77 rfl (by decide) kc5 rfl ⟨by decide, by decide⟩ (by decide) rfl (Nat.le_of_ble_eq_true rfl) (fun c1 σ1 => ?_) (fun ex σ1 => ?_)
  · refine k_i2l hk dL_least_8 ?_
    refine k_last_k (kk := 0) hk dL_least_9 rfl (by decide) (by decide) (by decide) (fun σ2 => ?_)
    refine k_goto hk dL_least_10 21 (by decide) ?_
    refine k_iconst (v := 0) hk dL_least_21 (by decide) ?_
    exact kh_ireturn hk he dL_least_22 (by decide)
  · refine kThr_ite (fun h0 => ?_) ?_
    · refine kThr_c hk he h0 [] { startPc := 0, endPc := 10, handlerPc := 13, catchType := 19 } [{ startPc := 0, endPc := 10, handlerPc := 17, catchType := 13 }] rfl (fun z hz => by cases hz) (by decide) (by decide) (kTB_mk (lwt4 (List.mem_of_getElem? (i := 37) rfl)) rfl) (by decide) (fun q9 => ?_)
      refine k_astore (lv' := [(4, .ref q9), (0, .ref (kad E 0 0)), (1, .int a1), (2, .int a2), (3, .ref (kad E 90 0))]) hk dL_least_13 (by decide) rfl ?_
      refine k_iconst (v := 1) hk dL_least_15 (by decide) ?_
      exact kh_ireturn hk he dL_least_16 (by decide)
    refine kThr_ite (fun h1 => ?_) ?_
    · refine kThr_c hk he h1 [{ startPc := 0, endPc := 10, handlerPc := 13, catchType := 19 }] { startPc := 0, endPc := 10, handlerPc := 17, catchType := 13 } [] rfl (fun z hz => by
      simp only [List.mem_cons, List.not_mem_nil, or_false] at hz
      rcases hz with rfl
      · exact ⟨by decide, by decide, "java/util/NoSuchElementException", kTB_mk (lwt4 (List.mem_of_getElem? (i := 37) rfl)) rfl, by decide⟩) (by decide) (by decide) (kTB_mk (lwt3 (List.mem_of_getElem? (i := 38) rfl)) rfl) (by decide) (fun q9 => ?_)
      refine k_astore (lv' := [(4, .ref q9), (0, .ref (kad E 0 0)), (1, .int a1), (2, .int a2), (3, .ref (kad E 90 0))]) hk dL_least_17 (by decide) rfl ?_
      refine k_iconst (v := 2) hk dL_least_19 (by decide) ?_
      exact kh_ireturn hk he dL_least_20 (by decide)
    exact kThr_no
def w_all (F : Nat) (a1 : Int32) (σ : kS) : Option kR := kBhi (f_X5_all F a1 σ) (fun c1 σ1 => kb (kUL σ1 90 0 0 c1.toInt64) fun σ2 => some (.inl (some (.int 0)), σ2)) (fun ex σ1 => if ex = "java/lang/IllegalArgumentException" then some (.inl (some (.int 1)), σ1) else (none))
set_option maxRecDepth 20000 in
theorem cw_all {l : Launch} {E : kE} (hj : kEj E) (hn : kNorm E) (hl : l.stackTraces = false) (F : Nat) (a1 : Int32) (σ : kS) : kMetH l E yL_all cL_all 4 (some .int) [(0, 9, 12, 13)] 10 187 1 [.ref (kad E 0 0), .int a1, .ref (kad E 90 0)] σ (w_all F a1 σ) := by
  refine k_metH hj hn hl (by decide) (Nat.le_of_ble_eq_true rfl) (fun C Q hk he hro => ?_)
  have hk : kOk (C, E, Q) cL_all RL 4 := hk
  show Sm (C, E, Q) 4 0 0 [(0, .ref (kad E 0 0)), (1, .int a1), (2, .ref (kad E 90 0))] [] σ _
  unfold w_all
  refine k_aload_n hk dL_all_0 2 rfl ?_
  refine k_iconst (v := 0) hk dL_all_1 (by decide) ?_
  refine k_aload_n hk dL_all_2 0 rfl ?_
  refine k_iload_n hk dL_all_3 1 rfl ?_
  refine k_callVHi (As := [.int a1]) (rest := [.int 0, .ref (kad E 90 0)]) hk hro (c_X5_all hj hn hl F a1 σ) dL_all_4 cw_RL_80 rfl (by decide) kc5 rfl ⟨by decide, by decide⟩ (by decide) rfl (Nat.le_of_ble_eq_true rfl) (fun c1 σ1 => ?_) (fun ex σ1 => ?_)
  · refine k_i2l hk dL_all_7 ?_
    refine k_last_k (kk := 0) hk dL_all_8 rfl (by decide) (by decide) (by decide) (fun σ2 => ?_)
    refine k_goto hk dL_all_9 15 (by decide) ?_
    refine k_iconst (v := 0) hk dL_all_15 (by decide) ?_
    exact kh_ireturn hk he dL_all_16 (by decide)
  · refine kThr_ite (fun h0 => ?_) ?_
    · refine kThr_c hk he h0 [] { startPc := 0, endPc := 9, handlerPc := 12, catchType := 13 } [] rfl (fun z hz => by cases hz) (by decide) (by decide) (kTB_mk (lwt3 (List.mem_of_getElem? (i := 38) rfl)) rfl) (by decide) (fun q9 => ?_)
      refine k_astore_n (lv' := [(3, .ref q9), (0, .ref (kad E 0 0)), (1, .int a1), (2, .ref (kad E 90 0))]) hk dL_all_12 (by decide) rfl ?_
      refine k_iconst (v := 1) hk dL_all_13 (by decide) ?_
      exact kh_ireturn hk he dL_all_14 (by decide)
    exact kThr_no
def w_next (F : Nat) (a1 : Int32) (σ : kS) : Option kR := kBhi (f_X5_next F a1 σ) (fun c1 σ1 => kb (kUL σ1 90 0 0 c1.toInt64) fun σ2 => some (.inl (some (.int 0)), σ2)) (fun ex σ1 => if ex = "java/lang/IllegalArgumentException" then some (.inl (some (.int 1)), σ1) else (none))
set_option maxRecDepth 20000 in
theorem cw_next {l : Launch} {E : kE} (hj : kEj E) (hn : kNorm E) (hl : l.stackTraces = false) (F : Nat) (a1 : Int32) (σ : kS) : kMetH l E yL_next cL_next 4 (some .int) [(0, 9, 12, 13)] 10 197 1 [.ref (kad E 0 0), .int a1, .ref (kad E 90 0)] σ (w_next F a1 σ) := by
  refine k_metH hj hn hl (by decide) (Nat.le_of_ble_eq_true rfl) (fun C Q hk he hro => ?_)
  have hk : kOk (C, E, Q) cL_next RL 4 := hk
  show Sm (C, E, Q) 4 0 0 [(0, .ref (kad E 0 0)), (1, .int a1), (2, .ref (kad E 90 0))] [] σ _
  unfold w_next
  refine k_aload_n hk dL_next_0 2 rfl ?_
  refine k_iconst (v := 0) hk dL_next_1 (by decide) ?_
  refine k_aload_n hk dL_next_2 0 rfl ?_
  refine k_iload_n hk dL_next_3 1 rfl ?_
  refine k_callVHi (As := [.int a1]) (rest := [.int 0, .ref (kad E 90 0)]) hk hro (c_X5_next hj hn hl F a1 σ) dL_next_4 cw_RL_83 rfl (by decide) kc5 rfl ⟨by decide, by decide⟩ (by decide) rfl (Nat.le_of_ble_eq_true rfl) (fun c1 σ1 => ?_) (fun ex σ1 => ?_)
  · refine k_i2l hk dL_next_7 ?_
    refine k_last_k (kk := 0) hk dL_next_8 rfl (by decide) (by decide) (by decide) (fun σ2 => ?_)
    refine k_goto hk dL_next_9 15 (by decide) ?_
    refine k_iconst (v := 0) hk dL_next_15 (by decide) ?_
    exact kh_ireturn hk he dL_next_16 (by decide)
  · refine kThr_ite (fun h0 => ?_) ?_
    · refine kThr_c hk he h0 [] { startPc := 0, endPc := 9, handlerPc := 12, catchType := 13 } [] rfl (fun z hz => by cases hz) (by decide) (by decide) (kTB_mk (lwt3 (List.mem_of_getElem? (i := 38) rfl)) rfl) (by decide) (fun q9 => ?_)
      refine k_astore_n (lv' := [(3, .ref q9), (0, .ref (kad E 0 0)), (1, .int a1), (2, .ref (kad E 90 0))]) hk dL_next_12 (by decide) rfl ?_
      refine k_iconst (v := 1) hk dL_next_13 (by decide) ?_
      exact kh_ireturn hk he dL_next_14 (by decide)
    exact kThr_no
def w_parted (F : Nat) (a1 : Int32) (a2 : Int32) (σ : kS) : Option kR := kBhi (f_X5_parted F a1 a2 σ) (fun c1 σ1 => kb (kUL σ1 90 0 0 c1.toInt64) fun σ2 => some (.inl (some (.int 0)), σ2)) (fun ex σ1 => if ex = "java/util/NoSuchElementException" then some (.inl (some (.int 1)), σ1) else (none))
set_option maxRecDepth 20000 in
theorem cw_parted {l : Launch} {E : kE} (hj : kEj E) (hn : kNorm E) (hl : l.stackTraces = false) (F : Nat) (a1 : Int32) (a2 : Int32) (σ : kS) : kMetH l E yL_parted cL_parted 5 (some .int) [(0, 10, 13, 19)] 10 186 2 [.ref (kad E 0 0), .int a1, .int a2, .ref (kad E 90 0)] σ (w_parted F a1 a2 σ) := by
  refine k_metH hj hn hl (by decide) (Nat.le_of_ble_eq_true rfl) (fun C Q hk he hro => ?_)
  have hk : kOk (C, E, Q) cL_parted RL 5 := hk
  show Sm (C, E, Q) 5 0 0 [(0, .ref (kad E 0 0)), (1, .int a1), (2, .int a2), (3, .ref (kad E 90 0))] [] σ _
  unfold w_parted
  refine k_aload_n hk dL_parted_0 3 rfl ?_
  refine k_iconst (v := 0) hk dL_parted_1 (by decide) ?_
  refine k_aload_n hk dL_parted_2 0 rfl ?_
  refine k_iload_n hk dL_parted_3 1 rfl ?_
  refine k_iload_n hk dL_parted_4 2 rfl ?_
  refine k_callVHi (As := [.int a1, .int a2]) (rest := [.int 0, .ref (kad E 90 0)]) hk hro (c_X5_parted hj hn hl F a1 a2 σ) dL_parted_5 cw_RL_86 rfl (by decide) kc5 rfl ⟨by decide, by decide⟩ (by decide) rfl (Nat.le_of_ble_eq_true rfl) (fun c1 σ1 => ?_) (fun ex σ1 => ?_)
  · refine k_i2l hk dL_parted_8 ?_
    refine k_last_k (kk := 0) hk dL_parted_9 rfl (by decide) (by decide) (by decide) (fun σ2 => ?_)
    refine k_goto hk dL_parted_10 17 (by decide) ?_
    refine k_iconst (v := 0) hk dL_parted_17 (by decide) ?_
    exact kh_ireturn hk he dL_parted_18 (by decide)
  · refine kThr_ite (fun h0 => ?_) ?_
    · refine kThr_c hk he h0 [] { startPc := 0, endPc := 10, handlerPc := 13, catchType := 19 } [] rfl (fun z hz => by cases hz) (by decide) (by decide) (kTB_mk (lwt4 (List.mem_of_getElem? (i := 37) rfl)) rfl) (by decide) (fun q9 => ?_)
      refine k_astore (lv' := [(4, .ref q9), (0, .ref (kad E 0 0)), (1, .int a1), (2, .int a2), (3, .ref (kad E 90 0))]) hk dL_parted_13 (by decide) rfl ?_
      refine k_iconst (v := 1) hk dL_parted_15 (by decide) ?_
      exact kh_ireturn hk he dL_parted_16 (by decide)
    exact kThr_no
def w_order (F : Nat) (a1 : Int32) (a2 : Int32) (σ : kS) : Option kR := kBhi (f_X5_order F a1 a2 σ) (fun c1 σ1 => kb (kUL σ1 90 0 0 c1.toInt64) fun σ2 => some (.inl (some (.int 0)), σ2)) (fun ex σ1 => if ex = "java/util/NoSuchElementException" then some (.inl (some (.int 1)), σ1) else (none))
set_option maxRecDepth 20000 in
theorem cw_order {l : Launch} {E : kE} (hj : kEj E) (hn : kNorm E) (hl : l.stackTraces = false) (F : Nat) (a1 : Int32) (a2 : Int32) (σ : kS) : kMetH l E yL_order cL_order 5 (some .int) [(0, 10, 13, 19)] 10 185 1 [.ref (kad E 0 0), .int a1, .int a2, .ref (kad E 90 0)] σ (w_order F a1 a2 σ) := by
  refine k_metH hj hn hl (by decide) (Nat.le_of_ble_eq_true rfl) (fun C Q hk he hro => ?_)
  have hk : kOk (C, E, Q) cL_order RL 5 := hk
  show Sm (C, E, Q) 5 0 0 [(0, .ref (kad E 0 0)), (1, .int a1), (2, .int a2), (3, .ref (kad E 90 0))] [] σ _
  unfold w_order
  refine k_aload_n hk dL_order_0 3 rfl ?_
  refine k_iconst (v := 0) hk dL_order_1 (by decide) ?_
  refine k_aload_n hk dL_order_2 0 rfl ?_
  refine k_iload_n hk dL_order_3 1 rfl ?_
  refine k_iload_n hk dL_order_4 2 rfl ?_
  refine k_callVHi (As := [.int a1, .int a2]) (rest := [.int 0, .ref (kad E 90 0)]) hk hro (c_X5_order hj hn hl F a1 a2 σ) dL_order_5 cw_RL_89 rfl (by decide) kc5 rfl ⟨by decide, by decide⟩ (by decide) rfl (Nat.le_of_ble_eq_true rfl) (fun c1 σ1 => ?_) (fun ex σ1 => ?_)
  · refine k_i2l hk dL_order_8 ?_
    refine k_last_k (kk := 0) hk dL_order_9 rfl (by decide) (by decide) (by decide) (fun σ2 => ?_)
    refine k_goto hk dL_order_10 17 (by decide) ?_
    refine k_iconst (v := 0) hk dL_order_17 (by decide) ?_
    exact kh_ireturn hk he dL_order_18 (by decide)
  · refine kThr_ite (fun h0 => ?_) ?_
    · refine kThr_c hk he h0 [] { startPc := 0, endPc := 10, handlerPc := 13, catchType := 19 } [] rfl (fun z hz => by cases hz) (by decide) (by decide) (kTB_mk (lwt4 (List.mem_of_getElem? (i := 37) rfl)) rfl) (by decide) (fun q9 => ?_)
      refine k_astore (lv' := [(4, .ref q9), (0, .ref (kad E 0 0)), (1, .int a1), (2, .int a2), (3, .ref (kad E 90 0))]) hk dL_order_13 (by decide) rfl ?_
      refine k_iconst (v := 1) hk dL_order_15 (by decide) ?_
      exact kh_ireturn hk he dL_order_16 (by decide)
    exact kThr_no
def w_dry (F : Nat) (a1 : Int32) (σ : kS) : Option kR := kBhi (f_X5_dry F a1 σ) (fun c1 σ1 => kb (kUL σ1 90 0 0 c1.toInt64) fun σ2 => some (.inl (some (.int 0)), σ2)) (fun ex σ1 => if ex = "java/util/NoSuchElementException" then some (.inl (some (.int 1)), σ1) else (none))
set_option maxRecDepth 20000 in
theorem cw_dry {l : Launch} {E : kE} (hj : kEj E) (hn : kNorm E) (hl : l.stackTraces = false) (F : Nat) (a1 : Int32) (σ : kS) : kMetH l E yL_dry cL_dry 4 (some .int) [(0, 9, 12, 19)] 10 185 1 [.ref (kad E 0 0), .int a1, .ref (kad E 90 0)] σ (w_dry F a1 σ) := by
  refine k_metH hj hn hl (by decide) (Nat.le_of_ble_eq_true rfl) (fun C Q hk he hro => ?_)
  have hk : kOk (C, E, Q) cL_dry RL 4 := hk
  show Sm (C, E, Q) 4 0 0 [(0, .ref (kad E 0 0)), (1, .int a1), (2, .ref (kad E 90 0))] [] σ _
  unfold w_dry
  refine k_aload_n hk dL_dry_0 2 rfl ?_
  refine k_iconst (v := 0) hk dL_dry_1 (by decide) ?_
  refine k_aload_n hk dL_dry_2 0 rfl ?_
  refine k_iload_n hk dL_dry_3 1 rfl ?_
  refine k_callVHi (As := [.int a1]) (rest := [.int 0, .ref (kad E 90 0)]) hk hro (c_X5_dry hj hn hl F a1 σ) dL_dry_4 cw_RL_92 rfl (by decide) kc5 rfl ⟨by decide, by decide⟩ (by decide) rfl (Nat.le_of_ble_eq_true rfl) (fun c1 σ1 => ?_) (fun ex σ1 => ?_)
  · refine k_i2l hk dL_dry_7 ?_
    refine k_last_k (kk := 0) hk dL_dry_8 rfl (by decide) (by decide) (by decide) (fun σ2 => ?_)
    refine k_goto hk dL_dry_9 15 (by decide) ?_
    refine k_iconst (v := 0) hk dL_dry_15 (by decide) ?_
    exact kh_ireturn hk he dL_dry_16 (by decide)
  · refine kThr_ite (fun h0 => ?_) ?_
    · refine kThr_c hk he h0 [] { startPc := 0, endPc := 9, handlerPc := 12, catchType := 19 } [] rfl (fun z hz => by cases hz) (by decide) (by decide) (kTB_mk (lwt4 (List.mem_of_getElem? (i := 37) rfl)) rfl) (by decide) (fun q9 => ?_)
      refine k_astore_n (lv' := [(3, .ref q9), (0, .ref (kad E 0 0)), (1, .int a1), (2, .ref (kad E 90 0))]) hk dL_dry_12 (by decide) rfl ?_
      refine k_iconst (v := 1) hk dL_dry_13 (by decide) ?_
      exact kh_ireturn hk he dL_dry_14 (by decide)
    exact kThr_no
