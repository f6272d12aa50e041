theorem dX0_init_0 : decode cX0_init 0 = .ok (.aload_n 0, 1) := by decide +kernel
theorem dX0_init_1 : decode cX0_init 1 = .ok (.invokespecial 3, 3) := by decide +kernel
theorem dX0_init_4 : decode cX0_init 4 = .ok (.aload_n 0, 1) := by decide +kernel
theorem dX0_init_5 : decode cX0_init 5 = .ok (.iconst 0, 1) := by decide +kernel
theorem dX0_init_6 : decode cX0_init 6 = .ok (.putfield 9, 3) := by decide +kernel
theorem dX0_init_9 : decode cX0_init 9 = .ok (.aload_n 0, 1) := by decide +kernel
theorem dX0_init_10 : decode cX0_init 10 = .ok (.bipush 100, 2) := by decide +kernel
theorem dX0_init_12 : decode cX0_init 12 = .ok (.newarray .int, 2) := by decide +kernel
theorem dX0_init_14 : decode cX0_init 14 = .ok (.putfield 15, 3) := by decide +kernel
theorem dX0_init_17 : decode cX0_init 17 = .ok (.aload_n 0, 1) := by decide +kernel
theorem dX0_init_18 : decode cX0_init 18 = .ok (.bipush 100, 2) := by decide +kernel
theorem dX0_init_20 : decode cX0_init 20 = .ok (.newarray .int, 2) := by decide +kernel
theorem dX0_init_22 : decode cX0_init 22 = .ok (.putfield 19, 3) := by decide +kernel
theorem dX0_init_25 : decode cX0_init 25 = .ok (.aload_n 0, 1) := by decide +kernel
theorem dX0_init_26 : decode cX0_init 26 = .ok (.bipush 100, 2) := by decide +kernel
theorem dX0_init_28 : decode cX0_init 28 = .ok (.newarray .int, 2) := by decide +kernel
theorem dX0_init_30 : decode cX0_init 30 = .ok (.putfield 22, 3) := by decide +kernel
theorem dX0_init_33 : decode cX0_init 33 = .ok (.aload_n 0, 1) := by decide +kernel
theorem dX0_init_34 : decode cX0_init 34 = .ok (.bipush 100, 2) := by decide +kernel
theorem dX0_init_36 : decode cX0_init 36 = .ok (.newarray .int, 2) := by decide +kernel
theorem dX0_init_38 : decode cX0_init 38 = .ok (.putfield 25, 3) := by decide +kernel
theorem dX0_init_41 : decode cX0_init 41 = .ok (.aload_n 0, 1) := by decide +kernel
theorem dX0_init_42 : decode cX0_init 42 = .ok (.sipush 800, 3) := by decide +kernel
theorem dX0_init_45 : decode cX0_init 45 = .ok (.newarray .int, 2) := by decide +kernel
theorem dX0_init_47 : decode cX0_init 47 = .ok (.putfield 28, 3) := by decide +kernel
theorem dX0_init_50 : decode cX0_init 50 = .ok (.aload_n 0, 1) := by decide +kernel
theorem dX0_init_51 : decode cX0_init 51 = .ok (.sipush 800, 3) := by decide +kernel
theorem dX0_init_54 : decode cX0_init 54 = .ok (.newarray .int, 2) := by decide +kernel
theorem dX0_init_56 : decode cX0_init 56 = .ok (.putfield 31, 3) := by decide +kernel
theorem dX0_init_59 : decode cX0_init 59 = .ok (.aload_n 0, 1) := by decide +kernel
theorem dX0_init_60 : decode cX0_init 60 = .ok (.bipush 8, 2) := by decide +kernel
theorem dX0_init_62 : decode cX0_init 62 = .ok (.newarray .int, 2) := by decide +kernel
theorem dX0_init_64 : decode cX0_init 64 = .ok (.putfield 34, 3) := by decide +kernel
theorem dX0_init_67 : decode cX0_init 67 = .ok (.aload_n 0, 1) := by decide +kernel
theorem dX0_init_68 : decode cX0_init 68 = .ok (.iconst (-1), 1) := by decide +kernel
theorem dX0_init_69 : decode cX0_init 69 = .ok (.putfield 37, 3) := by decide +kernel
theorem dX0_init_72 : decode cX0_init 72 = .ok (.aload_n 0, 1) := by decide +kernel
theorem dX0_init_73 : decode cX0_init 73 = .ok (.iconst (-1), 1) := by decide +kernel
theorem dX0_init_74 : decode cX0_init 74 = .ok (.putfield 41, 3) := by decide +kernel
theorem dX0_init_77 : decode cX0_init 77 = .ok (.aload_n 0, 1) := by decide +kernel
theorem dX0_init_78 : decode cX0_init 78 = .ok (.iconst (-1), 1) := by decide +kernel
theorem dX0_init_79 : decode cX0_init 79 = .ok (.putfield 44, 3) := by decide +kernel
theorem dX0_init_82 : decode cX0_init 82 = .ok (.aload_n 0, 1) := by decide +kernel
theorem dX0_init_83 : decode cX0_init 83 = .ok (.iconst (-1), 1) := by decide +kernel
theorem dX0_init_84 : decode cX0_init 84 = .ok (.putfield 47, 3) := by decide +kernel
theorem dX0_init_87 : decode cX0_init 87 = .ok (.return_, 1) := by decide +kernel
theorem dX0_keep_0 : decode cX0_keep 0 = .ok (.aload_n 0, 1) := by decide +kernel
theorem dX0_keep_1 : decode cX0_keep 1 = .ok (.getfield 15, 3) := by decide +kernel
theorem dX0_keep_4 : decode cX0_keep 4 = .ok (.iload_n 2, 1) := by decide +kernel
theorem dX0_keep_5 : decode cX0_keep 5 = .ok (.aload_n 1, 1) := by decide +kernel
theorem dX0_keep_6 : decode cX0_keep 6 = .ok (.getfield 50, 3) := by decide +kernel
theorem dX0_keep_9 : decode cX0_keep 9 = .ok (.iastore, 1) := by decide +kernel
theorem dX0_keep_10 : decode cX0_keep 10 = .ok (.aload_n 0, 1) := by decide +kernel
theorem dX0_keep_11 : decode cX0_keep 11 = .ok (.getfield 19, 3) := by decide +kernel
theorem dX0_keep_14 : decode cX0_keep 14 = .ok (.iload_n 2, 1) := by decide +kernel
theorem dX0_keep_15 : decode cX0_keep 15 = .ok (.aload_n 1, 1) := by decide +kernel
theorem dX0_keep_16 : decode cX0_keep 16 = .ok (.getfield 54, 3) := by decide +kernel
theorem dX0_keep_19 : decode cX0_keep 19 = .ok (.iastore, 1) := by decide +kernel
theorem dX0_keep_20 : decode cX0_keep 20 = .ok (.aload_n 0, 1) := by decide +kernel
theorem dX0_keep_21 : decode cX0_keep 21 = .ok (.getfield 22, 3) := by decide +kernel
theorem dX0_keep_24 : decode cX0_keep 24 = .ok (.iload_n 2, 1) := by decide +kernel
theorem dX0_keep_25 : decode cX0_keep 25 = .ok (.aload_n 1, 1) := by decide +kernel
theorem dX0_keep_26 : decode cX0_keep 26 = .ok (.getfield 56, 3) := by decide +kernel
theorem dX0_keep_29 : decode cX0_keep 29 = .ok (.iastore, 1) := by decide +kernel
theorem dX0_keep_30 : decode cX0_keep 30 = .ok (.aload_n 0, 1) := by decide +kernel
theorem dX0_keep_31 : decode cX0_keep 31 = .ok (.getfield 25, 3) := by decide +kernel
theorem dX0_keep_34 : decode cX0_keep 34 = .ok (.iload_n 2, 1) := by decide +kernel
theorem dX0_keep_35 : decode cX0_keep 35 = .ok (.aload_n 1, 1) := by decide +kernel
theorem dX0_keep_36 : decode cX0_keep 36 = .ok (.getfield 58, 3) := by decide +kernel
theorem dX0_keep_39 : decode cX0_keep 39 = .ok (.iastore, 1) := by decide +kernel
theorem dX0_keep_40 : decode cX0_keep 40 = .ok (.aload_n 1, 1) := by decide +kernel
theorem dX0_keep_41 : decode cX0_keep 41 = .ok (.getfield 60, 3) := by decide +kernel
theorem dX0_keep_44 : decode cX0_keep 44 = .ok (.iconst 0, 1) := by decide +kernel
theorem dX0_keep_45 : decode cX0_keep 45 = .ok (.aload_n 0, 1) := by decide +kernel
theorem dX0_keep_46 : decode cX0_keep 46 = .ok (.getfield 28, 3) := by decide +kernel
theorem dX0_keep_49 : decode cX0_keep 49 = .ok (.iload_n 2, 1) := by decide +kernel
theorem dX0_keep_50 : decode cX0_keep 50 = .ok (.bipush 8, 2) := by decide +kernel
theorem dX0_keep_52 : decode cX0_keep 52 = .ok (.imul, 1) := by decide +kernel
theorem dX0_keep_53 : decode cX0_keep 53 = .ok (.bipush 8, 2) := by decide +kernel
theorem dX0_keep_55 : decode cX0_keep 55 = .ok (.invokestatic 61, 3) := by decide +kernel
theorem dX0_keep_58 : decode cX0_keep 58 = .ok (.aload_n 1, 1) := by decide +kernel
theorem dX0_keep_59 : decode cX0_keep 59 = .ok (.getfield 67, 3) := by decide +kernel
theorem dX0_keep_62 : decode cX0_keep 62 = .ok (.iconst 0, 1) := by decide +kernel
theorem dX0_keep_63 : decode cX0_keep 63 = .ok (.aload_n 0, 1) := by decide +kernel
theorem dX0_keep_64 : decode cX0_keep 64 = .ok (.getfield 31, 3) := by decide +kernel
theorem dX0_keep_67 : decode cX0_keep 67 = .ok (.iload_n 2, 1) := by decide +kernel
theorem dX0_keep_68 : decode cX0_keep 68 = .ok (.bipush 8, 2) := by decide +kernel
theorem dX0_keep_70 : decode cX0_keep 70 = .ok (.imul, 1) := by decide +kernel
theorem dX0_keep_71 : decode cX0_keep 71 = .ok (.bipush 8, 2) := by decide +kernel
theorem dX0_keep_73 : decode cX0_keep 73 = .ok (.invokestatic 61, 3) := by decide +kernel
theorem dX0_keep_76 : decode cX0_keep 76 = .ok (.return_, 1) := by decide +kernel
theorem dX0_end_0 : decode cX0_end 0 = .ok (.aload_n 1, 1) := by decide +kernel
theorem dX0_end_1 : decode cX0_end 1 = .ok (.getfield 68, 3) := by decide +kernel
theorem dX0_end_4 : decode cX0_end 4 = .ok (.iconst 0, 1) := by decide +kernel
theorem dX0_end_5 : decode cX0_end 5 = .ok (.aload_n 0, 1) := by decide +kernel
theorem dX0_end_6 : decode cX0_end 6 = .ok (.getfield 34, 3) := by decide +kernel
theorem dX0_end_9 : decode cX0_end 9 = .ok (.iconst 0, 1) := by decide +kernel
theorem dX0_end_10 : decode cX0_end 10 = .ok (.bipush 8, 2) := by decide +kernel
theorem dX0_end_12 : decode cX0_end 12 = .ok (.invokestatic 61, 3) := by decide +kernel
theorem dX0_end_15 : decode cX0_end 15 = .ok (.aload_n 0, 1) := by decide +kernel
theorem dX0_end_16 : decode cX0_end 16 = .ok (.aload_n 1, 1) := by decide +kernel
theorem dX0_end_17 : decode cX0_end 17 = .ok (.getfield 69, 3) := by decide +kernel
theorem dX0_end_20 : decode cX0_end 20 = .ok (.putfield 37, 3) := by decide +kernel
theorem dX0_end_23 : decode cX0_end 23 = .ok (.aload_n 0, 1) := by decide +kernel
theorem dX0_end_24 : decode cX0_end 24 = .ok (.aload_n 1, 1) := by decide +kernel
theorem dX0_end_25 : decode cX0_end 25 = .ok (.getfield 70, 3) := by decide +kernel
theorem dX0_end_28 : decode cX0_end 28 = .ok (.putfield 41, 3) := by decide +kernel
theorem dX0_end_31 : decode cX0_end 31 = .ok (.aload_n 0, 1) := by decide +kernel
theorem dX0_end_32 : decode cX0_end 32 = .ok (.aload_n 1, 1) := by decide +kernel
theorem dX0_end_33 : decode cX0_end 33 = .ok (.getfield 71, 3) := by decide +kernel
theorem dX0_end_36 : decode cX0_end 36 = .ok (.putfield 44, 3) := by decide +kernel
theorem dX0_end_39 : decode cX0_end 39 = .ok (.aload_n 0, 1) := by decide +kernel
theorem dX0_end_40 : decode cX0_end 40 = .ok (.aload_n 1, 1) := by decide +kernel
theorem dX0_end_41 : decode cX0_end 41 = .ok (.invokevirtual 72, 3) := by decide +kernel
theorem dX0_end_44 : decode cX0_end 44 = .ok (.putfield 47, 3) := by decide +kernel
theorem dX0_end_47 : decode cX0_end 47 = .ok (.aload_n 0, 1) := by decide +kernel
theorem dX0_end_48 : decode cX0_end 48 = .ok (.iconst 1, 1) := by decide +kernel
theorem dX0_end_49 : decode cX0_end 49 = .ok (.putfield 9, 3) := by decide +kernel
theorem dX0_end_52 : decode cX0_end 52 = .ok (.return_, 1) := by decide +kernel
theorem dX0_gapAt_0 : decode cX0_gapAt 0 = .ok (.aload_n 0, 1) := by decide +kernel
theorem dX0_gapAt_1 : decode cX0_gapAt 1 = .ok (.getfield 19, 3) := by decide +kernel
theorem dX0_gapAt_4 : decode cX0_gapAt 4 = .ok (.iload_n 1, 1) := by decide +kernel
theorem dX0_gapAt_5 : decode cX0_gapAt 5 = .ok (.iaload, 1) := by decide +kernel
theorem dX0_gapAt_6 : decode cX0_gapAt 6 = .ok (.aload_n 0, 1) := by decide +kernel
theorem dX0_gapAt_7 : decode cX0_gapAt 7 = .ok (.getfield 22, 3) := by decide +kernel
theorem dX0_gapAt_10 : decode cX0_gapAt 10 = .ok (.iload_n 1, 1) := by decide +kernel
theorem dX0_gapAt_11 : decode cX0_gapAt 11 = .ok (.iaload, 1) := by decide +kernel
theorem dX0_gapAt_12 : decode cX0_gapAt 12 = .ok (.isub, 1) := by decide +kernel
theorem dX0_gapAt_13 : decode cX0_gapAt 13 = .ok (.ireturn, 1) := by decide +kernel
theorem dX0_allGasAt_0 : decode cX0_allGasAt 0 = .ok (.iconst 0, 1) := by decide +kernel
theorem dX0_allGasAt_1 : decode cX0_allGasAt 1 = .ok (.istore_n 2, 1) := by decide +kernel
theorem dX0_allGasAt_2 : decode cX0_allGasAt 2 = .ok (.iconst 0, 1) := by decide +kernel
theorem dX0_allGasAt_3 : decode cX0_allGasAt 3 = .ok (.istore_n 3, 1) := by decide +kernel
theorem dX0_allGasAt_4 : decode cX0_allGasAt 4 = .ok (.iload_n 3, 1) := by decide +kernel
theorem dX0_allGasAt_5 : decode cX0_allGasAt 5 = .ok (.bipush 8, 2) := by decide +kernel
theorem dX0_allGasAt_7 : decode cX0_allGasAt 7 = .ok (.if_icmp .ge 23, 3) := by decide +kernel
theorem dX0_allGasAt_10 : decode cX0_allGasAt 10 = .ok (.iload_n 2, 1) := by decide +kernel
theorem dX0_allGasAt_11 : decode cX0_allGasAt 11 = .ok (.aload_n 0, 1) := by decide +kernel
theorem dX0_allGasAt_12 : decode cX0_allGasAt 12 = .ok (.getfield 28, 3) := by decide +kernel
theorem dX0_allGasAt_15 : decode cX0_allGasAt 15 = .ok (.iload_n 1, 1) := by decide +kernel
theorem dX0_allGasAt_16 : decode cX0_allGasAt 16 = .ok (.bipush 8, 2) := by decide +kernel
theorem dX0_allGasAt_18 : decode cX0_allGasAt 18 = .ok (.imul, 1) := by decide +kernel
theorem dX0_allGasAt_19 : decode cX0_allGasAt 19 = .ok (.iload_n 3, 1) := by decide +kernel
theorem dX0_allGasAt_20 : decode cX0_allGasAt 20 = .ok (.iadd, 1) := by decide +kernel
theorem dX0_allGasAt_21 : decode cX0_allGasAt 21 = .ok (.iaload, 1) := by decide +kernel
theorem dX0_allGasAt_22 : decode cX0_allGasAt 22 = .ok (.iadd, 1) := by decide +kernel
theorem dX0_allGasAt_23 : decode cX0_allGasAt 23 = .ok (.istore_n 2, 1) := by decide +kernel
theorem dX0_allGasAt_24 : decode cX0_allGasAt 24 = .ok (.iinc 3 1, 3) := by decide +kernel
theorem dX0_allGasAt_27 : decode cX0_allGasAt 27 = .ok (.goto (-23), 3) := by decide +kernel
theorem dX0_allGasAt_30 : decode cX0_allGasAt 30 = .ok (.iload_n 2, 1) := by decide +kernel
theorem dX0_allGasAt_31 : decode cX0_allGasAt 31 = .ok (.ireturn, 1) := by decide +kernel
theorem dX0_heavyAt_0 : decode cX0_heavyAt 0 = .ok (.iconst 0, 1) := by decide +kernel
theorem dX0_heavyAt_1 : decode cX0_heavyAt 1 = .ok (.istore_n 2, 1) := by decide +kernel
theorem dX0_heavyAt_2 : decode cX0_heavyAt 2 = .ok (.iconst 0, 1) := by decide +kernel
theorem dX0_heavyAt_3 : decode cX0_heavyAt 3 = .ok (.istore_n 3, 1) := by decide +kernel
theorem dX0_heavyAt_4 : decode cX0_heavyAt 4 = .ok (.iload_n 3, 1) := by decide +kernel
theorem dX0_heavyAt_5 : decode cX0_heavyAt 5 = .ok (.bipush 8, 2) := by decide +kernel
theorem dX0_heavyAt_7 : decode cX0_heavyAt 7 = .ok (.if_icmp .ge 38, 3) := by decide +kernel
theorem dX0_heavyAt_10 : decode cX0_heavyAt 10 = .ok (.aload_n 0, 1) := by decide +kernel
theorem dX0_heavyAt_11 : decode cX0_heavyAt 11 = .ok (.getfield 28, 3) := by decide +kernel
theorem dX0_heavyAt_14 : decode cX0_heavyAt 14 = .ok (.iload_n 1, 1) := by decide +kernel
theorem dX0_heavyAt_15 : decode cX0_heavyAt 15 = .ok (.bipush 8, 2) := by decide +kernel
theorem dX0_heavyAt_17 : decode cX0_heavyAt 17 = .ok (.imul, 1) := by decide +kernel
theorem dX0_heavyAt_18 : decode cX0_heavyAt 18 = .ok (.iload_n 3, 1) := by decide +kernel
theorem dX0_heavyAt_19 : decode cX0_heavyAt 19 = .ok (.iadd, 1) := by decide +kernel
theorem dX0_heavyAt_20 : decode cX0_heavyAt 20 = .ok (.iaload, 1) := by decide +kernel
theorem dX0_heavyAt_21 : decode cX0_heavyAt 21 = .ok (.istore 4, 2) := by decide +kernel
theorem dX0_heavyAt_23 : decode cX0_heavyAt 23 = .ok (.iload_n 2, 1) := by decide +kernel
theorem dX0_heavyAt_24 : decode cX0_heavyAt 24 = .ok (.iload_n 3, 1) := by decide +kernel
theorem dX0_heavyAt_25 : decode cX0_heavyAt 25 = .ok (.iconst 4, 1) := by decide +kernel
theorem dX0_heavyAt_26 : decode cX0_heavyAt 26 = .ok (.if_icmp .ge 8, 3) := by decide +kernel
theorem dX0_heavyAt_29 : decode cX0_heavyAt 29 = .ok (.iload 4, 2) := by decide +kernel
theorem dX0_heavyAt_31 : decode cX0_heavyAt 31 = .ok (.goto 6, 3) := by decide +kernel
theorem dX0_heavyAt_34 : decode cX0_heavyAt 34 = .ok (.iload 4, 2) := by decide +kernel
theorem dX0_heavyAt_36 : decode cX0_heavyAt 36 = .ok (.ineg, 1) := by decide +kernel
theorem dX0_heavyAt_37 : decode cX0_heavyAt 37 = .ok (.iadd, 1) := by decide +kernel
theorem dX0_heavyAt_38 : decode cX0_heavyAt 38 = .ok (.istore_n 2, 1) := by decide +kernel
theorem dX0_heavyAt_39 : decode cX0_heavyAt 39 = .ok (.iinc 3 1, 3) := by decide +kernel
theorem dX0_heavyAt_42 : decode cX0_heavyAt 42 = .ok (.goto (-38), 3) := by decide +kernel
theorem dX0_heavyAt_45 : decode cX0_heavyAt 45 = .ok (.iload_n 2, 1) := by decide +kernel
theorem dX0_heavyAt_46 : decode cX0_heavyAt 46 = .ok (.ireturn, 1) := by decide +kernel
theorem dX0_firesAt_0 : decode cX0_firesAt 0 = .ok (.iconst 0, 1) := by decide +kernel
theorem dX0_firesAt_1 : decode cX0_firesAt 1 = .ok (.istore_n 2, 1) := by decide +kernel
theorem dX0_firesAt_2 : decode cX0_firesAt 2 = .ok (.iconst 0, 1) := by decide +kernel
theorem dX0_firesAt_3 : decode cX0_firesAt 3 = .ok (.istore_n 3, 1) := by decide +kernel
theorem dX0_firesAt_4 : decode cX0_firesAt 4 = .ok (.iload_n 3, 1) := by decide +kernel
theorem dX0_firesAt_5 : decode cX0_firesAt 5 = .ok (.bipush 8, 2) := by decide +kernel
theorem dX0_firesAt_7 : decode cX0_firesAt 7 = .ok (.if_icmp .ge 21, 3) := by decide +kernel
theorem dX0_firesAt_10 : decode cX0_firesAt 10 = .ok (.aload_n 0, 1) := by decide +kernel
theorem dX0_firesAt_11 : decode cX0_firesAt 11 = .ok (.iload_n 3, 1) := by decide +kernel
theorem dX0_firesAt_12 : decode cX0_firesAt 12 = .ok (.iload_n 1, 1) := by decide +kernel
theorem dX0_firesAt_13 : decode cX0_firesAt 13 = .ok (.invokevirtual 76, 3) := by decide +kernel
theorem dX0_firesAt_16 : decode cX0_firesAt 16 = .ok (.ifCond .eq 6, 3) := by decide +kernel
theorem dX0_firesAt_19 : decode cX0_firesAt 19 = .ok (.iinc 2 1, 3) := by decide +kernel
theorem dX0_firesAt_22 : decode cX0_firesAt 22 = .ok (.iinc 3 1, 3) := by decide +kernel
theorem dX0_firesAt_25 : decode cX0_firesAt 25 = .ok (.goto (-21), 3) := by decide +kernel
theorem dX0_firesAt_28 : decode cX0_firesAt 28 = .ok (.iload_n 2, 1) := by decide +kernel
theorem dX0_firesAt_29 : decode cX0_firesAt 29 = .ok (.ireturn, 1) := by decide +kernel
theorem dX0_hasFireAt_0 : decode cX0_hasFireAt 0 = .ok (.aload_n 0, 1) := by decide +kernel
theorem dX0_hasFireAt_1 : decode cX0_hasFireAt 1 = .ok (.getfield 34, 3) := by decide +kernel
theorem dX0_hasFireAt_4 : decode cX0_hasFireAt 4 = .ok (.iload_n 1, 1) := by decide +kernel
theorem dX0_hasFireAt_5 : decode cX0_hasFireAt 5 = .ok (.iaload, 1) := by decide +kernel
theorem dX0_hasFireAt_6 : decode cX0_hasFireAt 6 = .ok (.iconst (-1), 1) := by decide +kernel
theorem dX0_hasFireAt_7 : decode cX0_hasFireAt 7 = .ok (.if_icmp .eq 17, 3) := by decide +kernel
theorem dX0_hasFireAt_10 : decode cX0_hasFireAt 10 = .ok (.aload_n 0, 1) := by decide +kernel
theorem dX0_hasFireAt_11 : decode cX0_hasFireAt 11 = .ok (.getfield 34, 3) := by decide +kernel
theorem dX0_hasFireAt_14 : decode cX0_hasFireAt 14 = .ok (.iload_n 1, 1) := by decide +kernel
theorem dX0_hasFireAt_15 : decode cX0_hasFireAt 15 = .ok (.iaload, 1) := by decide +kernel
theorem dX0_hasFireAt_16 : decode cX0_hasFireAt 16 = .ok (.iload_n 2, 1) := by decide +kernel
theorem dX0_hasFireAt_17 : decode cX0_hasFireAt 17 = .ok (.if_icmp .gt 7, 3) := by decide +kernel
theorem dX0_hasFireAt_20 : decode cX0_hasFireAt 20 = .ok (.iconst 1, 1) := by decide +kernel
theorem dX0_hasFireAt_21 : decode cX0_hasFireAt 21 = .ok (.goto 4, 3) := by decide +kernel
theorem dX0_hasFireAt_24 : decode cX0_hasFireAt 24 = .ok (.iconst 0, 1) := by decide +kernel
theorem dX0_hasFireAt_25 : decode cX0_hasFireAt 25 = .ok (.ireturn, 1) := by decide +kernel
theorem dX0_firesAhead_0 : decode cX0_firesAhead 0 = .ok (.iconst 0, 1) := by decide +kernel
theorem dX0_firesAhead_1 : decode cX0_firesAhead 1 = .ok (.istore_n 2, 1) := by decide +kernel
theorem dX0_firesAhead_2 : decode cX0_firesAhead 2 = .ok (.iconst 0, 1) := by decide +kernel
theorem dX0_firesAhead_3 : decode cX0_firesAhead 3 = .ok (.istore_n 3, 1) := by decide +kernel
theorem dX0_firesAhead_4 : decode cX0_firesAhead 4 = .ok (.iload_n 3, 1) := by decide +kernel
theorem dX0_firesAhead_5 : decode cX0_firesAhead 5 = .ok (.bipush 8, 2) := by decide +kernel
theorem dX0_firesAhead_7 : decode cX0_firesAhead 7 = .ok (.if_icmp .ge 69, 3) := by decide +kernel
theorem dX0_firesAhead_10 : decode cX0_firesAhead 10 = .ok (.aload_n 0, 1) := by decide +kernel
theorem dX0_firesAhead_11 : decode cX0_firesAhead 11 = .ok (.getfield 34, 3) := by decide +kernel
theorem dX0_firesAhead_14 : decode cX0_firesAhead 14 = .ok (.iload_n 3, 1) := by decide +kernel
theorem dX0_firesAhead_15 : decode cX0_firesAhead 15 = .ok (.iaload, 1) := by decide +kernel
theorem dX0_firesAhead_16 : decode cX0_firesAhead 16 = .ok (.aload_n 0, 1) := by decide +kernel
theorem dX0_firesAhead_17 : decode cX0_firesAhead 17 = .ok (.getfield 34, 3) := by decide +kernel
theorem dX0_firesAhead_20 : decode cX0_firesAhead 20 = .ok (.iload_n 1, 1) := by decide +kernel
theorem dX0_firesAhead_21 : decode cX0_firesAhead 21 = .ok (.iaload, 1) := by decide +kernel
theorem dX0_firesAhead_22 : decode cX0_firesAhead 22 = .ok (.if_icmp .lt 23, 3) := by decide +kernel
theorem dX0_firesAhead_25 : decode cX0_firesAhead 25 = .ok (.aload_n 0, 1) := by decide +kernel
theorem dX0_firesAhead_26 : decode cX0_firesAhead 26 = .ok (.getfield 34, 3) := by decide +kernel
theorem dX0_firesAhead_29 : decode cX0_firesAhead 29 = .ok (.iload_n 3, 1) := by decide +kernel
theorem dX0_firesAhead_30 : decode cX0_firesAhead 30 = .ok (.iaload, 1) := by decide +kernel
theorem dX0_firesAhead_31 : decode cX0_firesAhead 31 = .ok (.aload_n 0, 1) := by decide +kernel
theorem dX0_firesAhead_32 : decode cX0_firesAhead 32 = .ok (.getfield 34, 3) := by decide +kernel
theorem dX0_firesAhead_35 : decode cX0_firesAhead 35 = .ok (.iload_n 1, 1) := by decide +kernel
theorem dX0_firesAhead_36 : decode cX0_firesAhead 36 = .ok (.iaload, 1) := by decide +kernel
theorem dX0_firesAhead_37 : decode cX0_firesAhead 37 = .ok (.if_icmp .ne 12, 3) := by decide +kernel
theorem dX0_firesAhead_40 : decode cX0_firesAhead 40 = .ok (.iload_n 3, 1) := by decide +kernel
theorem dX0_firesAhead_41 : decode cX0_firesAhead 41 = .ok (.iload_n 1, 1) := by decide +kernel
theorem dX0_firesAhead_42 : decode cX0_firesAhead 42 = .ok (.if_icmp .ge 7, 3) := by decide +kernel
theorem dX0_firesAhead_45 : decode cX0_firesAhead 45 = .ok (.iconst 1, 1) := by decide +kernel
theorem dX0_firesAhead_46 : decode cX0_firesAhead 46 = .ok (.goto 4, 3) := by decide +kernel
theorem dX0_firesAhead_49 : decode cX0_firesAhead 49 = .ok (.iconst 0, 1) := by decide +kernel
theorem dX0_firesAhead_50 : decode cX0_firesAhead 50 = .ok (.istore 4, 2) := by decide +kernel
theorem dX0_firesAhead_52 : decode cX0_firesAhead 52 = .ok (.aload_n 0, 1) := by decide +kernel
theorem dX0_firesAhead_53 : decode cX0_firesAhead 53 = .ok (.getfield 34, 3) := by decide +kernel
theorem dX0_firesAhead_56 : decode cX0_firesAhead 56 = .ok (.iload_n 3, 1) := by decide +kernel
theorem dX0_firesAhead_57 : decode cX0_firesAhead 57 = .ok (.iaload, 1) := by decide +kernel
theorem dX0_firesAhead_58 : decode cX0_firesAhead 58 = .ok (.iconst (-1), 1) := by decide +kernel
theorem dX0_firesAhead_59 : decode cX0_firesAhead 59 = .ok (.if_icmp .eq 11, 3) := by decide +kernel
theorem dX0_firesAhead_62 : decode cX0_firesAhead 62 = .ok (.iload 4, 2) := by decide +kernel
theorem dX0_firesAhead_64 : decode cX0_firesAhead 64 = .ok (.ifCond .eq 6, 3) := by decide +kernel
theorem dX0_firesAhead_67 : decode cX0_firesAhead 67 = .ok (.iinc 2 1, 3) := by decide +kernel
theorem dX0_firesAhead_70 : decode cX0_firesAhead 70 = .ok (.iinc 3 1, 3) := by decide +kernel
theorem dX0_firesAhead_73 : decode cX0_firesAhead 73 = .ok (.goto (-69), 3) := by decide +kernel
theorem dX0_firesAhead_76 : decode cX0_firesAhead 76 = .ok (.iload_n 2, 1) := by decide +kernel
theorem dX0_firesAhead_77 : decode cX0_firesAhead 77 = .ok (.ireturn, 1) := by decide +kernel
theorem dX1_init_0 : decode cX1_init 0 = .ok (.aload_n 0, 1) := by decide +kernel
theorem dX1_init_1 : decode cX1_init 1 = .ok (.invokespecial 3, 3) := by decide +kernel
theorem dX1_init_4 : decode cX1_init 4 = .ok (.aload_n 0, 1) := by decide +kernel
theorem dX1_init_5 : decode cX1_init 5 = .ok (.bipush 10, 2) := by decide +kernel
theorem dX1_init_7 : decode cX1_init 7 = .ok (.newarray .int, 2) := by decide +kernel
theorem dX1_init_9 : decode cX1_init 9 = .ok (.putfield 9, 3) := by decide +kernel
theorem dX1_init_12 : decode cX1_init 12 = .ok (.aload_n 0, 1) := by decide +kernel
theorem dX1_init_13 : decode cX1_init 13 = .ok (.bipush 8, 2) := by decide +kernel
theorem dX1_init_15 : decode cX1_init 15 = .ok (.newarray .int, 2) := by decide +kernel
theorem dX1_init_17 : decode cX1_init 17 = .ok (.putfield 15, 3) := by decide +kernel
theorem dX1_init_20 : decode cX1_init 20 = .ok (.aload_n 0, 1) := by decide +kernel
theorem dX1_init_21 : decode cX1_init 21 = .ok (.bipush 8, 2) := by decide +kernel
theorem dX1_init_23 : decode cX1_init 23 = .ok (.newarray .int, 2) := by decide +kernel
theorem dX1_init_25 : decode cX1_init 25 = .ok (.putfield 18, 3) := by decide +kernel
theorem dX1_init_28 : decode cX1_init 28 = .ok (.aload_n 0, 1) := by decide +kernel
theorem dX1_init_29 : decode cX1_init 29 = .ok (.bipush 8, 2) := by decide +kernel
theorem dX1_init_31 : decode cX1_init 31 = .ok (.newarray .int, 2) := by decide +kernel
theorem dX1_init_33 : decode cX1_init 33 = .ok (.putfield 21, 3) := by decide +kernel
theorem dX1_init_36 : decode cX1_init 36 = .ok (.aload_n 0, 1) := by decide +kernel
theorem dX1_init_37 : decode cX1_init 37 = .ok (.bipush 32, 2) := by decide +kernel
theorem dX1_init_39 : decode cX1_init 39 = .ok (.newarray .int, 2) := by decide +kernel
theorem dX1_init_41 : decode cX1_init 41 = .ok (.putfield 24, 3) := by decide +kernel
theorem dX1_init_44 : decode cX1_init 44 = .ok (.aload_n 0, 1) := by decide +kernel
theorem dX1_init_45 : decode cX1_init 45 = .ok (.new 27, 3) := by decide +kernel
theorem dX1_init_48 : decode cX1_init 48 = .ok (.dup, 1) := by decide +kernel
theorem dX1_init_49 : decode cX1_init 49 = .ok (.invokespecial 29, 3) := by decide +kernel
theorem dX1_init_52 : decode cX1_init 52 = .ok (.putfield 30, 3) := by decide +kernel
theorem dX1_init_55 : decode cX1_init 55 = .ok (.aload_n 0, 1) := by decide +kernel
theorem dX1_init_56 : decode cX1_init 56 = .ok (.iconst 0, 1) := by decide +kernel
theorem dX1_init_57 : decode cX1_init 57 = .ok (.putfield 34, 3) := by decide +kernel
theorem dX1_init_60 : decode cX1_init 60 = .ok (.aload_n 0, 1) := by decide +kernel
theorem dX1_init_61 : decode cX1_init 61 = .ok (.iconst 0, 1) := by decide +kernel
theorem dX1_init_62 : decode cX1_init 62 = .ok (.putfield 38, 3) := by decide +kernel
theorem dX1_init_65 : decode cX1_init 65 = .ok (.aload_n 0, 1) := by decide +kernel
theorem dX1_init_66 : decode cX1_init 66 = .ok (.iconst 0, 1) := by decide +kernel
theorem dX1_init_67 : decode cX1_init 67 = .ok (.putfield 41, 3) := by decide +kernel
theorem dX1_init_70 : decode cX1_init 70 = .ok (.aload_n 0, 1) := by decide +kernel
theorem dX1_init_71 : decode cX1_init 71 = .ok (.iconst 0, 1) := by decide +kernel
theorem dX1_init_72 : decode cX1_init 72 = .ok (.putfield 44, 3) := by decide +kernel
theorem dX1_init_75 : decode cX1_init 75 = .ok (.aload_n 0, 1) := by decide +kernel
theorem dX1_init_76 : decode cX1_init 76 = .ok (.iconst (-1), 1) := by decide +kernel
theorem dX1_init_77 : decode cX1_init 77 = .ok (.putfield 47, 3) := by decide +kernel
theorem dX1_init_80 : decode cX1_init 80 = .ok (.aload_n 0, 1) := by decide +kernel
theorem dX1_init_81 : decode cX1_init 81 = .ok (.iconst (-1), 1) := by decide +kernel
theorem dX1_init_82 : decode cX1_init 82 = .ok (.putfield 50, 3) := by decide +kernel
theorem dX1_init_85 : decode cX1_init 85 = .ok (.aload_n 0, 1) := by decide +kernel
theorem dX1_init_86 : decode cX1_init 86 = .ok (.iconst (-1), 1) := by decide +kernel
theorem dX1_init_87 : decode cX1_init 87 = .ok (.putfield 53, 3) := by decide +kernel
theorem dX1_init_90 : decode cX1_init 90 = .ok (.return_, 1) := by decide +kernel
theorem dX1_load_0 : decode cX1_load 0 = .ok (.aload_n 1, 1) := by decide +kernel
theorem dX1_load_1 : decode cX1_load 1 = .ok (.getfield 56, 3) := by decide +kernel
theorem dX1_load_4 : decode cX1_load 4 = .ok (.iconst 0, 1) := by decide +kernel
theorem dX1_load_5 : decode cX1_load 5 = .ok (.aload_n 0, 1) := by decide +kernel
theorem dX1_load_6 : decode cX1_load 6 = .ok (.getfield 9, 3) := by decide +kernel
theorem dX1_load_9 : decode cX1_load 9 = .ok (.iconst 0, 1) := by decide +kernel
theorem dX1_load_10 : decode cX1_load 10 = .ok (.bipush 10, 2) := by decide +kernel
theorem dX1_load_12 : decode cX1_load 12 = .ok (.invokestatic 59, 3) := by decide +kernel
theorem dX1_load_15 : decode cX1_load 15 = .ok (.aload_n 1, 1) := by decide +kernel
theorem dX1_load_16 : decode cX1_load 16 = .ok (.getfield 65, 3) := by decide +kernel
theorem dX1_load_19 : decode cX1_load 19 = .ok (.iconst 0, 1) := by decide +kernel
theorem dX1_load_20 : decode cX1_load 20 = .ok (.aload_n 0, 1) := by decide +kernel
theorem dX1_load_21 : decode cX1_load 21 = .ok (.getfield 15, 3) := by decide +kernel
theorem dX1_load_24 : decode cX1_load 24 = .ok (.iconst 0, 1) := by decide +kernel
theorem dX1_load_25 : decode cX1_load 25 = .ok (.bipush 8, 2) := by decide +kernel
theorem dX1_load_27 : decode cX1_load 27 = .ok (.invokestatic 59, 3) := by decide +kernel
theorem dX1_load_30 : decode cX1_load 30 = .ok (.return_, 1) := by decide +kernel
theorem dX1_start_0 : decode cX1_start 0 = .ok (.aload_n 0, 1) := by decide +kernel
theorem dX1_start_1 : decode cX1_start 1 = .ok (.aload_n 1, 1) := by decide +kernel
theorem dX1_start_2 : decode cX1_start 2 = .ok (.putfield 30, 3) := by decide +kernel
theorem dX1_start_5 : decode cX1_start 5 = .ok (.iconst 0, 1) := by decide +kernel
theorem dX1_start_6 : decode cX1_start 6 = .ok (.istore_n 2, 1) := by decide +kernel
theorem dX1_start_7 : decode cX1_start 7 = .ok (.iload_n 2, 1) := by decide +kernel
theorem dX1_start_8 : decode cX1_start 8 = .ok (.aload_n 0, 1) := by decide +kernel
theorem dX1_start_9 : decode cX1_start 9 = .ok (.getfield 30, 3) := by decide +kernel
theorem dX1_start_12 : decode cX1_start 12 = .ok (.getfield 66, 3) := by decide +kernel
theorem dX1_start_15 : decode cX1_start 15 = .ok (.if_icmp .ge 46, 3) := by decide +kernel
theorem dX1_start_18 : decode cX1_start 18 = .ok (.aload_n 0, 1) := by decide +kernel
theorem dX1_start_19 : decode cX1_start 19 = .ok (.getfield 30, 3) := by decide +kernel
theorem dX1_start_22 : decode cX1_start 22 = .ok (.getfield 69, 3) := by decide +kernel
theorem dX1_start_25 : decode cX1_start 25 = .ok (.iload_n 2, 1) := by decide +kernel
theorem dX1_start_26 : decode cX1_start 26 = .ok (.iaload, 1) := by decide +kernel
theorem dX1_start_27 : decode cX1_start 27 = .ok (.bipush (-19), 2) := by decide +kernel
theorem dX1_start_29 : decode cX1_start 29 = .ok (.if_icmp .ne 26, 3) := by decide +kernel
theorem dX1_start_32 : decode cX1_start 32 = .ok (.aload_n 0, 1) := by decide +kernel
theorem dX1_start_33 : decode cX1_start 33 = .ok (.getfield 9, 3) := by decide +kernel
theorem dX1_start_36 : decode cX1_start 36 = .ok (.aload_n 0, 1) := by decide +kernel
theorem dX1_start_37 : decode cX1_start 37 = .ok (.getfield 30, 3) := by decide +kernel
theorem dX1_start_40 : decode cX1_start 40 = .ok (.getfield 72, 3) := by decide +kernel
theorem dX1_start_43 : decode cX1_start 43 = .ok (.iload_n 2, 1) := by decide +kernel
theorem dX1_start_44 : decode cX1_start 44 = .ok (.iaload, 1) := by decide +kernel
theorem dX1_start_45 : decode cX1_start 45 = .ok (.aload_n 0, 1) := by decide +kernel
theorem dX1_start_46 : decode cX1_start 46 = .ok (.getfield 30, 3) := by decide +kernel
theorem dX1_start_49 : decode cX1_start 49 = .ok (.getfield 75, 3) := by decide +kernel
theorem dX1_start_52 : decode cX1_start 52 = .ok (.iload_n 2, 1) := by decide +kernel
theorem dX1_start_53 : decode cX1_start 53 = .ok (.iaload, 1) := by decide +kernel
theorem dX1_start_54 : decode cX1_start 54 = .ok (.iastore, 1) := by decide +kernel
theorem dX1_start_55 : decode cX1_start 55 = .ok (.iinc 2 1, 3) := by decide +kernel
theorem dX1_start_58 : decode cX1_start 58 = .ok (.goto (-51), 3) := by decide +kernel
theorem dX1_start_61 : decode cX1_start 61 = .ok (.aload_n 0, 1) := by decide +kernel
theorem dX1_start_62 : decode cX1_start 62 = .ok (.iconst 0, 1) := by decide +kernel
theorem dX1_start_63 : decode cX1_start 63 = .ok (.putfield 34, 3) := by decide +kernel
theorem dX1_start_66 : decode cX1_start 66 = .ok (.aload_n 0, 1) := by decide +kernel
theorem dX1_start_67 : decode cX1_start 67 = .ok (.aload_n 0, 1) := by decide +kernel
theorem dX1_start_68 : decode cX1_start 68 = .ok (.getfield 9, 3) := by decide +kernel
theorem dX1_start_71 : decode cX1_start 71 = .ok (.iconst 2, 1) := by decide +kernel
theorem dX1_start_72 : decode cX1_start 72 = .ok (.iaload, 1) := by decide +kernel
theorem dX1_start_73 : decode cX1_start 73 = .ok (.putfield 38, 3) := by decide +kernel
theorem dX1_start_76 : decode cX1_start 76 = .ok (.aload_n 0, 1) := by decide +kernel
theorem dX1_start_77 : decode cX1_start 77 = .ok (.aload_n 0, 1) := by decide +kernel
theorem dX1_start_78 : decode cX1_start 78 = .ok (.getfield 9, 3) := by decide +kernel
theorem dX1_start_81 : decode cX1_start 81 = .ok (.iconst 2, 1) := by decide +kernel
theorem dX1_start_82 : decode cX1_start 82 = .ok (.iaload, 1) := by decide +kernel
theorem dX1_start_83 : decode cX1_start 83 = .ok (.putfield 41, 3) := by decide +kernel
theorem dX1_start_86 : decode cX1_start 86 = .ok (.aload_n 0, 1) := by decide +kernel
theorem dX1_start_87 : decode cX1_start 87 = .ok (.aload_n 0, 1) := by decide +kernel
theorem dX1_start_88 : decode cX1_start 88 = .ok (.getfield 9, 3) := by decide +kernel
theorem dX1_start_91 : decode cX1_start 91 = .ok (.bipush 9, 2) := by decide +kernel
theorem dX1_start_93 : decode cX1_start 93 = .ok (.iaload, 1) := by decide +kernel
theorem dX1_start_94 : decode cX1_start 94 = .ok (.putfield 44, 3) := by decide +kernel
theorem dX1_start_97 : decode cX1_start 97 = .ok (.aload_n 0, 1) := by decide +kernel
theorem dX1_start_98 : decode cX1_start 98 = .ok (.getfield 18, 3) := by decide +kernel
theorem dX1_start_101 : decode cX1_start 101 = .ok (.iconst 0, 1) := by decide +kernel
theorem dX1_start_102 : decode cX1_start 102 = .ok (.invokestatic 78, 3) := by decide +kernel
theorem dX1_start_105 : decode cX1_start 105 = .ok (.aload_n 0, 1) := by decide +kernel
theorem dX1_start_106 : decode cX1_start 106 = .ok (.getfield 21, 3) := by decide +kernel
theorem dX1_start_109 : decode cX1_start 109 = .ok (.iconst (-1), 1) := by decide +kernel
theorem dX1_start_110 : decode cX1_start 110 = .ok (.invokestatic 78, 3) := by decide +kernel
theorem dX1_start_113 : decode cX1_start 113 = .ok (.aload_n 0, 1) := by decide +kernel
theorem dX1_start_114 : decode cX1_start 114 = .ok (.iconst (-1), 1) := by decide +kernel
theorem dX1_start_115 : decode cX1_start 115 = .ok (.putfield 47, 3) := by decide +kernel
theorem dX1_start_118 : decode cX1_start 118 = .ok (.aload_n 0, 1) := by decide +kernel
theorem dX1_start_119 : decode cX1_start 119 = .ok (.iconst (-1), 1) := by decide +kernel
theorem dX1_start_120 : decode cX1_start 120 = .ok (.putfield 50, 3) := by decide +kernel
theorem dX1_start_123 : decode cX1_start 123 = .ok (.aload_n 0, 1) := by decide +kernel
theorem dX1_start_124 : decode cX1_start 124 = .ok (.iconst (-1), 1) := by decide +kernel
theorem dX1_start_125 : decode cX1_start 125 = .ok (.putfield 53, 3) := by decide +kernel
theorem dX1_start_128 : decode cX1_start 128 = .ok (.return_, 1) := by decide +kernel
theorem dX1_leadsFrom_0 : decode cX1_leadsFrom 0 = .ok (.aload_n 0, 1) := by decide +kernel
theorem dX1_leadsFrom_1 : decode cX1_leadsFrom 1 = .ok (.getfield 9, 3) := by decide +kernel
theorem dX1_leadsFrom_4 : decode cX1_leadsFrom 4 = .ok (.iconst 1, 1) := by decide +kernel
theorem dX1_leadsFrom_5 : decode cX1_leadsFrom 5 = .ok (.iaload, 1) := by decide +kernel
theorem dX1_leadsFrom_6 : decode cX1_leadsFrom 6 = .ok (.aload_n 0, 1) := by decide +kernel
theorem dX1_leadsFrom_7 : decode cX1_leadsFrom 7 = .ok (.getfield 9, 3) := by decide +kernel
theorem dX1_leadsFrom_10 : decode cX1_leadsFrom 10 = .ok (.iconst 0, 1) := by decide +kernel
theorem dX1_leadsFrom_11 : decode cX1_leadsFrom 11 = .ok (.iaload, 1) := by decide +kernel
theorem dX1_leadsFrom_12 : decode cX1_leadsFrom 12 = .ok (.if_icmp .gt 5, 3) := by decide +kernel
theorem dX1_leadsFrom_15 : decode cX1_leadsFrom 15 = .ok (.iconst 0, 1) := by decide +kernel
theorem dX1_leadsFrom_16 : decode cX1_leadsFrom 16 = .ok (.ireturn, 1) := by decide +kernel
theorem dX1_leadsFrom_17 : decode cX1_leadsFrom 17 = .ok (.aload_n 0, 1) := by decide +kernel
theorem dX1_leadsFrom_18 : decode cX1_leadsFrom 18 = .ok (.getfield 9, 3) := by decide +kernel
theorem dX1_leadsFrom_21 : decode cX1_leadsFrom 21 = .ok (.iconst 0, 1) := by decide +kernel
theorem dX1_leadsFrom_22 : decode cX1_leadsFrom 22 = .ok (.iaload, 1) := by decide +kernel
theorem dX1_leadsFrom_23 : decode cX1_leadsFrom 23 = .ok (.ifCond .gt 8, 3) := by decide +kernel
theorem dX1_leadsFrom_26 : decode cX1_leadsFrom 26 = .ok (.bipush 100, 2) := by decide +kernel
theorem dX1_leadsFrom_28 : decode cX1_leadsFrom 28 = .ok (.goto 23, 3) := by decide +kernel
theorem dX1_leadsFrom_31 : decode cX1_leadsFrom 31 = .ok (.bipush 100, 2) := by decide +kernel
theorem dX1_leadsFrom_33 : decode cX1_leadsFrom 33 = .ok (.aload_n 0, 1) := by decide +kernel
theorem dX1_leadsFrom_34 : decode cX1_leadsFrom 34 = .ok (.getfield 9, 3) := by decide +kernel
theorem dX1_leadsFrom_37 : decode cX1_leadsFrom 37 = .ok (.iconst 1, 1) := by decide +kernel
theorem dX1_leadsFrom_38 : decode cX1_leadsFrom 38 = .ok (.iaload, 1) := by decide +kernel
theorem dX1_leadsFrom_39 : decode cX1_leadsFrom 39 = .ok (.iconst 1, 1) := by decide +kernel
theorem dX1_leadsFrom_40 : decode cX1_leadsFrom 40 = .ok (.isub, 1) := by decide +kernel
theorem dX1_leadsFrom_41 : decode cX1_leadsFrom 41 = .ok (.aload_n 0, 1) := by decide +kernel
theorem dX1_leadsFrom_42 : decode cX1_leadsFrom 42 = .ok (.getfield 9, 3) := by decide +kernel
theorem dX1_leadsFrom_45 : decode cX1_leadsFrom 45 = .ok (.iconst 0, 1) := by decide +kernel
theorem dX1_leadsFrom_46 : decode cX1_leadsFrom 46 = .ok (.iaload, 1) := by decide +kernel
theorem dX1_leadsFrom_47 : decode cX1_leadsFrom 47 = .ok (.idiv, 1) := by decide +kernel
theorem dX1_leadsFrom_48 : decode cX1_leadsFrom 48 = .ok (.invokestatic 84, 3) := by decide +kernel
theorem dX1_leadsFrom_51 : decode cX1_leadsFrom 51 = .ok (.ireturn, 1) := by decide +kernel
theorem dX1_burns_0 : decode cX1_burns 0 = .ok (.iconst 0, 1) := by decide +kernel
theorem dX1_burns_1 : decode cX1_burns 1 = .ok (.istore_n 1, 1) := by decide +kernel
theorem dX1_burns_2 : decode cX1_burns 2 = .ok (.iload_n 1, 1) := by decide +kernel
theorem dX1_burns_3 : decode cX1_burns 3 = .ok (.bipush 100, 2) := by decide +kernel
theorem dX1_burns_5 : decode cX1_burns 5 = .ok (.if_icmp .ge 22, 3) := by decide +kernel
theorem dX1_burns_8 : decode cX1_burns 8 = .ok (.aload_n 0, 1) := by decide +kernel
theorem dX1_burns_9 : decode cX1_burns 9 = .ok (.getfield 47, 3) := by decide +kernel
theorem dX1_burns_12 : decode cX1_burns 12 = .ok (.iconst (-1), 1) := by decide +kernel
theorem dX1_burns_13 : decode cX1_burns 13 = .ok (.if_icmp .ne 14, 3) := by decide +kernel
theorem dX1_burns_16 : decode cX1_burns 16 = .ok (.aload_n 0, 1) := by decide +kernel
theorem dX1_burns_17 : decode cX1_burns 17 = .ok (.iload_n 1, 1) := by decide +kernel
theorem dX1_burns_18 : decode cX1_burns 18 = .ok (.invokevirtual 90, 3) := by decide +kernel
theorem dX1_burns_21 : decode cX1_burns 21 = .ok (.iinc 1 1, 3) := by decide +kernel
theorem dX1_burns_24 : decode cX1_burns 24 = .ok (.goto (-22), 3) := by decide +kernel
theorem dX1_burns_27 : decode cX1_burns 27 = .ok (.aload_n 0, 1) := by decide +kernel
theorem dX1_burns_28 : decode cX1_burns 28 = .ok (.getfield 47, 3) := by decide +kernel
theorem dX1_burns_31 : decode cX1_burns 31 = .ok (.iconst (-1), 1) := by decide +kernel
theorem dX1_burns_32 : decode cX1_burns 32 = .ok (.if_icmp .eq 7, 3) := by decide +kernel
theorem dX1_burns_35 : decode cX1_burns 35 = .ok (.iconst 1, 1) := by decide +kernel
theorem dX1_burns_36 : decode cX1_burns 36 = .ok (.goto 4, 3) := by decide +kernel
theorem dX1_burns_39 : decode cX1_burns 39 = .ok (.iconst 0, 1) := by decide +kernel
theorem dX1_burns_40 : decode cX1_burns 40 = .ok (.ireturn, 1) := by decide +kernel
theorem dX1_lasts_0 : decode cX1_lasts 0 = .ok (.iconst 0, 1) := by decide +kernel
theorem dX1_lasts_1 : decode cX1_lasts 1 = .ok (.istore_n 1, 1) := by decide +kernel
theorem dX1_lasts_2 : decode cX1_lasts 2 = .ok (.iload_n 1, 1) := by decide +kernel
theorem dX1_lasts_3 : decode cX1_lasts 3 = .ok (.bipush 100, 2) := by decide +kernel
theorem dX1_lasts_5 : decode cX1_lasts 5 = .ok (.if_icmp .ge 22, 3) := by decide +kernel
theorem dX1_lasts_8 : decode cX1_lasts 8 = .ok (.aload_n 0, 1) := by decide +kernel
theorem dX1_lasts_9 : decode cX1_lasts 9 = .ok (.getfield 53, 3) := by decide +kernel
theorem dX1_lasts_12 : decode cX1_lasts 12 = .ok (.iconst (-1), 1) := by decide +kernel
theorem dX1_lasts_13 : decode cX1_lasts 13 = .ok (.if_icmp .ne 14, 3) := by decide +kernel
theorem dX1_lasts_16 : decode cX1_lasts 16 = .ok (.aload_n 0, 1) := by decide +kernel
theorem dX1_lasts_17 : decode cX1_lasts 17 = .ok (.iload_n 1, 1) := by decide +kernel
theorem dX1_lasts_18 : decode cX1_lasts 18 = .ok (.invokevirtual 90, 3) := by decide +kernel
theorem dX1_lasts_21 : decode cX1_lasts 21 = .ok (.iinc 1 1, 3) := by decide +kernel
theorem dX1_lasts_24 : decode cX1_lasts 24 = .ok (.goto (-22), 3) := by decide +kernel
theorem dX1_lasts_27 : decode cX1_lasts 27 = .ok (.aload_n 0, 1) := by decide +kernel
theorem dX1_lasts_28 : decode cX1_lasts 28 = .ok (.invokevirtual 94, 3) := by decide +kernel
theorem dX1_lasts_31 : decode cX1_lasts 31 = .ok (.ireturn, 1) := by decide +kernel
theorem dX1_lastedSoFar_0 : decode cX1_lastedSoFar 0 = .ok (.aload_n 0, 1) := by decide +kernel
theorem dX1_lastedSoFar_1 : decode cX1_lastedSoFar 1 = .ok (.getfield 47, 3) := by decide +kernel
theorem dX1_lastedSoFar_4 : decode cX1_lastedSoFar 4 = .ok (.iconst (-1), 1) := by decide +kernel
theorem dX1_lastedSoFar_5 : decode cX1_lastedSoFar 5 = .ok (.if_icmp .eq 22, 3) := by decide +kernel
theorem dX1_lastedSoFar_8 : decode cX1_lastedSoFar 8 = .ok (.aload_n 0, 1) := by decide +kernel
theorem dX1_lastedSoFar_9 : decode cX1_lastedSoFar 9 = .ok (.getfield 53, 3) := by decide +kernel
theorem dX1_lastedSoFar_12 : decode cX1_lastedSoFar 12 = .ok (.iconst (-1), 1) := by decide +kernel
theorem dX1_lastedSoFar_13 : decode cX1_lastedSoFar 13 = .ok (.if_icmp .eq 14, 3) := by decide +kernel
theorem dX1_lastedSoFar_16 : decode cX1_lastedSoFar 16 = .ok (.aload_n 0, 1) := by decide +kernel
theorem dX1_lastedSoFar_17 : decode cX1_lastedSoFar 17 = .ok (.getfield 53, 3) := by decide +kernel
theorem dX1_lastedSoFar_20 : decode cX1_lastedSoFar 20 = .ok (.aload_n 0, 1) := by decide +kernel
theorem dX1_lastedSoFar_21 : decode cX1_lastedSoFar 21 = .ok (.getfield 47, 3) := by decide +kernel
theorem dX1_lastedSoFar_24 : decode cX1_lastedSoFar 24 = .ok (.if_icmp .ge 7, 3) := by decide +kernel
theorem dX1_lastedSoFar_27 : decode cX1_lastedSoFar 27 = .ok (.iconst (-1), 1) := by decide +kernel
theorem dX1_lastedSoFar_28 : decode cX1_lastedSoFar 28 = .ok (.goto 12, 3) := by decide +kernel
theorem dX1_lastedSoFar_31 : decode cX1_lastedSoFar 31 = .ok (.aload_n 0, 1) := by decide +kernel
theorem dX1_lastedSoFar_32 : decode cX1_lastedSoFar 32 = .ok (.getfield 53, 3) := by decide +kernel
theorem dX1_lastedSoFar_35 : decode cX1_lastedSoFar 35 = .ok (.aload_n 0, 1) := by decide +kernel
theorem dX1_lastedSoFar_36 : decode cX1_lastedSoFar 36 = .ok (.getfield 47, 3) := by decide +kernel
theorem dX1_lastedSoFar_39 : decode cX1_lastedSoFar 39 = .ok (.isub, 1) := by decide +kernel
theorem dX1_lastedSoFar_40 : decode cX1_lastedSoFar 40 = .ok (.ireturn, 1) := by decide +kernel
theorem dX1_pass_0 : decode cX1_pass 0 = .ok (.aload_n 0, 1) := by decide +kernel
theorem dX1_pass_1 : decode cX1_pass 1 = .ok (.dup, 1) := by decide +kernel
theorem dX1_pass_2 : decode cX1_pass 2 = .ok (.getfield 34, 3) := by decide +kernel
theorem dX1_pass_5 : decode cX1_pass 5 = .ok (.aload_n 0, 1) := by decide +kernel
theorem dX1_pass_6 : decode cX1_pass 6 = .ok (.getfield 9, 3) := by decide +kernel
theorem dX1_pass_9 : decode cX1_pass 9 = .ok (.iconst 0, 1) := by decide +kernel
theorem dX1_pass_10 : decode cX1_pass 10 = .ok (.iaload, 1) := by decide +kernel
theorem dX1_pass_11 : decode cX1_pass 11 = .ok (.iadd, 1) := by decide +kernel
theorem dX1_pass_12 : decode cX1_pass 12 = .ok (.putfield 34, 3) := by decide +kernel
theorem dX1_pass_15 : decode cX1_pass 15 = .ok (.aload_n 0, 1) := by decide +kernel
theorem dX1_pass_16 : decode cX1_pass 16 = .ok (.getfield 34, 3) := by decide +kernel
theorem dX1_pass_19 : decode cX1_pass 19 = .ok (.aload_n 0, 1) := by decide +kernel
theorem dX1_pass_20 : decode cX1_pass 20 = .ok (.getfield 9, 3) := by decide +kernel
theorem dX1_pass_23 : decode cX1_pass 23 = .ok (.iconst 1, 1) := by decide +kernel
theorem dX1_pass_24 : decode cX1_pass 24 = .ok (.iaload, 1) := by decide +kernel
theorem dX1_pass_25 : decode cX1_pass 25 = .ok (.if_icmp .lt 41, 3) := by decide +kernel
theorem dX1_pass_28 : decode cX1_pass 28 = .ok (.aload_n 0, 1) := by decide +kernel
theorem dX1_pass_29 : decode cX1_pass 29 = .ok (.iconst 0, 1) := by decide +kernel
theorem dX1_pass_30 : decode cX1_pass 30 = .ok (.aload_n 0, 1) := by decide +kernel
theorem dX1_pass_31 : decode cX1_pass 31 = .ok (.getfield 41, 3) := by decide +kernel
theorem dX1_pass_34 : decode cX1_pass 34 = .ok (.aload_n 0, 1) := by decide +kernel
theorem dX1_pass_35 : decode cX1_pass 35 = .ok (.getfield 9, 3) := by decide +kernel
theorem dX1_pass_38 : decode cX1_pass 38 = .ok (.iconst 3, 1) := by decide +kernel
theorem dX1_pass_39 : decode cX1_pass 39 = .ok (.iaload, 1) := by decide +kernel
theorem dX1_pass_40 : decode cX1_pass 40 = .ok (.isub, 1) := by decide +kernel
theorem dX1_pass_41 : decode cX1_pass 41 = .ok (.invokestatic 98, 3) := by decide +kernel
theorem dX1_pass_44 : decode cX1_pass 44 = .ok (.putfield 41, 3) := by decide +kernel
theorem dX1_pass_47 : decode cX1_pass 47 = .ok (.aload_n 0, 1) := by decide +kernel
theorem dX1_pass_48 : decode cX1_pass 48 = .ok (.iconst 0, 1) := by decide +kernel
theorem dX1_pass_49 : decode cX1_pass 49 = .ok (.aload_n 0, 1) := by decide +kernel
theorem dX1_pass_50 : decode cX1_pass 50 = .ok (.getfield 38, 3) := by decide +kernel
theorem dX1_pass_53 : decode cX1_pass 53 = .ok (.aload_n 0, 1) := by decide +kernel
theorem dX1_pass_54 : decode cX1_pass 54 = .ok (.getfield 9, 3) := by decide +kernel
theorem dX1_pass_57 : decode cX1_pass 57 = .ok (.iconst 4, 1) := by decide +kernel
theorem dX1_pass_58 : decode cX1_pass 58 = .ok (.iaload, 1) := by decide +kernel
theorem dX1_pass_59 : decode cX1_pass 59 = .ok (.isub, 1) := by decide +kernel
theorem dX1_pass_60 : decode cX1_pass 60 = .ok (.invokestatic 98, 3) := by decide +kernel
theorem dX1_pass_63 : decode cX1_pass 63 = .ok (.putfield 38, 3) := by decide +kernel
theorem dX1_pass_66 : decode cX1_pass 66 = .ok (.aload_n 0, 1) := by decide +kernel
theorem dX1_pass_67 : decode cX1_pass 67 = .ok (.iload_n 1, 1) := by decide +kernel
theorem dX1_pass_68 : decode cX1_pass 68 = .ok (.invokevirtual 101, 3) := by decide +kernel
theorem dX1_pass_71 : decode cX1_pass 71 = .ok (.aload_n 0, 1) := by decide +kernel
theorem dX1_pass_72 : decode cX1_pass 72 = .ok (.iload_n 1, 1) := by decide +kernel
theorem dX1_pass_73 : decode cX1_pass 73 = .ok (.invokevirtual 104, 3) := by decide +kernel
theorem dX1_pass_76 : decode cX1_pass 76 = .ok (.aload_n 0, 1) := by decide +kernel
theorem dX1_pass_77 : decode cX1_pass 77 = .ok (.getfield 47, 3) := by decide +kernel
theorem dX1_pass_80 : decode cX1_pass 80 = .ok (.iconst (-1), 1) := by decide +kernel
theorem dX1_pass_81 : decode cX1_pass 81 = .ok (.if_icmp .eq 12, 3) := by decide +kernel
theorem dX1_pass_84 : decode cX1_pass 84 = .ok (.aload_n 0, 1) := by decide +kernel
theorem dX1_pass_85 : decode cX1_pass 85 = .ok (.iload_n 1, 1) := by decide +kernel
theorem dX1_pass_86 : decode cX1_pass 86 = .ok (.invokevirtual 107, 3) := by decide +kernel
theorem dX1_pass_89 : decode cX1_pass 89 = .ok (.aload_n 0, 1) := by decide +kernel
theorem dX1_pass_90 : decode cX1_pass 90 = .ok (.invokevirtual 110, 3) := by decide +kernel
theorem dX1_pass_93 : decode cX1_pass 93 = .ok (.aload_n 0, 1) := by decide +kernel
theorem dX1_pass_94 : decode cX1_pass 94 = .ok (.iload_n 1, 1) := by decide +kernel
theorem dX1_pass_95 : decode cX1_pass 95 = .ok (.invokevirtual 113, 3) := by decide +kernel
theorem dX1_pass_98 : decode cX1_pass 98 = .ok (.return_, 1) := by decide +kernel
theorem dX1_leak_0 : decode cX1_leak 0 = .ok (.iconst 0, 1) := by decide +kernel
theorem dX1_leak_1 : decode cX1_leak 1 = .ok (.istore_n 2, 1) := by decide +kernel
theorem dX1_leak_2 : decode cX1_leak 2 = .ok (.iload_n 2, 1) := by decide +kernel
theorem dX1_leak_3 : decode cX1_leak 3 = .ok (.aload_n 0, 1) := by decide +kernel
theorem dX1_leak_4 : decode cX1_leak 4 = .ok (.getfield 30, 3) := by decide +kernel
theorem dX1_leak_7 : decode cX1_leak 7 = .ok (.getfield 66, 3) := by decide +kernel
theorem dX1_leak_10 : decode cX1_leak 10 = .ok (.if_icmp .ge 88, 3) := by decide +kernel
theorem dX1_leak_13 : decode cX1_leak 13 = .ok (.aload_n 0, 1) := by decide +kernel
theorem dX1_leak_14 : decode cX1_leak 14 = .ok (.getfield 30, 3) := by decide +kernel
theorem dX1_leak_17 : decode cX1_leak 17 = .ok (.getfield 69, 3) := by decide +kernel
theorem dX1_leak_20 : decode cX1_leak 20 = .ok (.iload_n 2, 1) := by decide +kernel
theorem dX1_leak_21 : decode cX1_leak 21 = .ok (.iaload, 1) := by decide +kernel
theorem dX1_leak_22 : decode cX1_leak 22 = .ok (.bipush (-17), 2) := by decide +kernel
theorem dX1_leak_24 : decode cX1_leak 24 = .ok (.if_icmp .ne 68, 3) := by decide +kernel
theorem dX1_leak_27 : decode cX1_leak 27 = .ok (.iload_n 1, 1) := by decide +kernel
theorem dX1_leak_28 : decode cX1_leak 28 = .ok (.aload_n 0, 1) := by decide +kernel
theorem dX1_leak_29 : decode cX1_leak 29 = .ok (.getfield 30, 3) := by decide +kernel
theorem dX1_leak_32 : decode cX1_leak 32 = .ok (.getfield 116, 3) := by decide +kernel
theorem dX1_leak_35 : decode cX1_leak 35 = .ok (.iload_n 2, 1) := by decide +kernel
theorem dX1_leak_36 : decode cX1_leak 36 = .ok (.iaload, 1) := by decide +kernel
theorem dX1_leak_37 : decode cX1_leak 37 = .ok (.if_icmp .lt 55, 3) := by decide +kernel
theorem dX1_leak_40 : decode cX1_leak 40 = .ok (.aload_n 0, 1) := by decide +kernel
theorem dX1_leak_41 : decode cX1_leak 41 = .ok (.getfield 30, 3) := by decide +kernel
theorem dX1_leak_44 : decode cX1_leak 44 = .ok (.getfield 72, 3) := by decide +kernel
theorem dX1_leak_47 : decode cX1_leak 47 = .ok (.iload_n 2, 1) := by decide +kernel
theorem dX1_leak_48 : decode cX1_leak 48 = .ok (.iaload, 1) := by decide +kernel
theorem dX1_leak_49 : decode cX1_leak 49 = .ok (.istore_n 3, 1) := by decide +kernel
theorem dX1_leak_50 : decode cX1_leak 50 = .ok (.aload_n 0, 1) := by decide +kernel
theorem dX1_leak_51 : decode cX1_leak 51 = .ok (.getfield 30, 3) := by decide +kernel
theorem dX1_leak_54 : decode cX1_leak 54 = .ok (.getfield 75, 3) := by decide +kernel
theorem dX1_leak_57 : decode cX1_leak 57 = .ok (.iload_n 2, 1) := by decide +kernel
theorem dX1_leak_58 : decode cX1_leak 58 = .ok (.iaload, 1) := by decide +kernel
theorem dX1_leak_59 : decode cX1_leak 59 = .ok (.aload_n 0, 1) := by decide +kernel
theorem dX1_leak_60 : decode cX1_leak 60 = .ok (.getfield 15, 3) := by decide +kernel
theorem dX1_leak_63 : decode cX1_leak 63 = .ok (.iload_n 3, 1) := by decide +kernel
theorem dX1_leak_64 : decode cX1_leak 64 = .ok (.iaload, 1) := by decide +kernel
theorem dX1_leak_65 : decode cX1_leak 65 = .ok (.invokestatic 84, 3) := by decide +kernel
theorem dX1_leak_68 : decode cX1_leak 68 = .ok (.istore 4, 2) := by decide +kernel
theorem dX1_leak_70 : decode cX1_leak 70 = .ok (.aload_n 0, 1) := by decide +kernel
theorem dX1_leak_71 : decode cX1_leak 71 = .ok (.getfield 15, 3) := by decide +kernel
theorem dX1_leak_74 : decode cX1_leak 74 = .ok (.iload_n 3, 1) := by decide +kernel
theorem dX1_leak_75 : decode cX1_leak 75 = .ok (.dup2, 1) := by decide +kernel
theorem dX1_leak_76 : decode cX1_leak 76 = .ok (.iaload, 1) := by decide +kernel
theorem dX1_leak_77 : decode cX1_leak 77 = .ok (.iload 4, 2) := by decide +kernel
theorem dX1_leak_79 : decode cX1_leak 79 = .ok (.isub, 1) := by decide +kernel
theorem dX1_leak_80 : decode cX1_leak 80 = .ok (.iastore, 1) := by decide +kernel
theorem dX1_leak_81 : decode cX1_leak 81 = .ok (.aload_n 0, 1) := by decide +kernel
theorem dX1_leak_82 : decode cX1_leak 82 = .ok (.getfield 18, 3) := by decide +kernel
theorem dX1_leak_85 : decode cX1_leak 85 = .ok (.iload_n 3, 1) := by decide +kernel
theorem dX1_leak_86 : decode cX1_leak 86 = .ok (.dup2, 1) := by decide +kernel
theorem dX1_leak_87 : decode cX1_leak 87 = .ok (.iaload, 1) := by decide +kernel
theorem dX1_leak_88 : decode cX1_leak 88 = .ok (.iload 4, 2) := by decide +kernel
theorem dX1_leak_90 : decode cX1_leak 90 = .ok (.iadd, 1) := by decide +kernel
theorem dX1_leak_91 : decode cX1_leak 91 = .ok (.iastore, 1) := by decide +kernel
theorem dX1_leak_92 : decode cX1_leak 92 = .ok (.iinc 2 1, 3) := by decide +kernel
theorem dX1_leak_95 : decode cX1_leak 95 = .ok (.goto (-93), 3) := by decide +kernel
theorem dX1_leak_98 : decode cX1_leak 98 = .ok (.return_, 1) := by decide +kernel
theorem dX1_spark_0 : decode cX1_spark 0 = .ok (.iconst 0, 1) := by decide +kernel
theorem dX1_spark_1 : decode cX1_spark 1 = .ok (.istore_n 2, 1) := by decide +kernel
theorem dX1_spark_2 : decode cX1_spark 2 = .ok (.iload_n 2, 1) := by decide +kernel
theorem dX1_spark_3 : decode cX1_spark 3 = .ok (.aload_n 0, 1) := by decide +kernel
theorem dX1_spark_4 : decode cX1_spark 4 = .ok (.getfield 30, 3) := by decide +kernel
theorem dX1_spark_7 : decode cX1_spark 7 = .ok (.getfield 66, 3) := by decide +kernel
theorem dX1_spark_10 : decode cX1_spark 10 = .ok (.if_icmp .ge 102, 3) := by decide +kernel
theorem dX1_spark_13 : decode cX1_spark 13 = .ok (.aload_n 0, 1) := by decide +kernel
theorem dX1_spark_14 : decode cX1_spark 14 = .ok (.getfield 30, 3) := by decide +kernel
theorem dX1_spark_17 : decode cX1_spark 17 = .ok (.getfield 72, 3) := by decide +kernel
theorem dX1_spark_20 : decode cX1_spark 20 = .ok (.iload_n 2, 1) := by decide +kernel
theorem dX1_spark_21 : decode cX1_spark 21 = .ok (.iaload, 1) := by decide +kernel
theorem dX1_spark_22 : decode cX1_spark 22 = .ok (.istore_n 3, 1) := by decide +kernel
theorem dX1_spark_23 : decode cX1_spark 23 = .ok (.aload_n 0, 1) := by decide +kernel
theorem dX1_spark_24 : decode cX1_spark 24 = .ok (.getfield 30, 3) := by decide +kernel
theorem dX1_spark_27 : decode cX1_spark 27 = .ok (.getfield 69, 3) := by decide +kernel
theorem dX1_spark_30 : decode cX1_spark 30 = .ok (.iload_n 2, 1) := by decide +kernel
theorem dX1_spark_31 : decode cX1_spark 31 = .ok (.iaload, 1) := by decide +kernel
theorem dX1_spark_32 : decode cX1_spark 32 = .ok (.bipush (-18), 2) := by decide +kernel
theorem dX1_spark_34 : decode cX1_spark 34 = .ok (.if_icmp .ne 72, 3) := by decide +kernel
theorem dX1_spark_37 : decode cX1_spark 37 = .ok (.aload_n 0, 1) := by decide +kernel
theorem dX1_spark_38 : decode cX1_spark 38 = .ok (.getfield 21, 3) := by decide +kernel
theorem dX1_spark_41 : decode cX1_spark 41 = .ok (.iload_n 3, 1) := by decide +kernel
theorem dX1_spark_42 : decode cX1_spark 42 = .ok (.iaload, 1) := by decide +kernel
theorem dX1_spark_43 : decode cX1_spark 43 = .ok (.iconst (-1), 1) := by decide +kernel
theorem dX1_spark_44 : decode cX1_spark 44 = .ok (.if_icmp .ne 62, 3) := by decide +kernel
theorem dX1_spark_47 : decode cX1_spark 47 = .ok (.aload_n 0, 1) := by decide +kernel
theorem dX1_spark_48 : decode cX1_spark 48 = .ok (.getfield 18, 3) := by decide +kernel
theorem dX1_spark_51 : decode cX1_spark 51 = .ok (.iload_n 3, 1) := by decide +kernel
theorem dX1_spark_52 : decode cX1_spark 52 = .ok (.iaload, 1) := by decide +kernel
theorem dX1_spark_53 : decode cX1_spark 53 = .ok (.ifCond .le 53, 3) := by decide +kernel
theorem dX1_spark_56 : decode cX1_spark 56 = .ok (.aload_n 0, 1) := by decide +kernel
theorem dX1_spark_57 : decode cX1_spark 57 = .ok (.iload_n 2, 1) := by decide +kernel
theorem dX1_spark_58 : decode cX1_spark 58 = .ok (.iload_n 1, 1) := by decide +kernel
theorem dX1_spark_59 : decode cX1_spark 59 = .ok (.invokevirtual 119, 3) := by decide +kernel
theorem dX1_spark_62 : decode cX1_spark 62 = .ok (.ifCond .eq 44, 3) := by decide +kernel
theorem dX1_spark_65 : decode cX1_spark 65 = .ok (.aload_n 0, 1) := by decide +kernel
theorem dX1_spark_66 : decode cX1_spark 66 = .ok (.getfield 21, 3) := by decide +kernel
theorem dX1_spark_69 : decode cX1_spark 69 = .ok (.iload_n 3, 1) := by decide +kernel
theorem dX1_spark_70 : decode cX1_spark 70 = .ok (.iload_n 1, 1) := by decide +kernel
theorem dX1_spark_71 : decode cX1_spark 71 = .ok (.iastore, 1) := by decide +kernel
theorem dX1_spark_72 : decode cX1_spark 72 = .ok (.aload_n 0, 1) := by decide +kernel
theorem dX1_spark_73 : decode cX1_spark 73 = .ok (.getfield 47, 3) := by decide +kernel
theorem dX1_spark_76 : decode cX1_spark 76 = .ok (.iconst (-1), 1) := by decide +kernel
theorem dX1_spark_77 : decode cX1_spark 77 = .ok (.if_icmp .eq 19, 3) := by decide +kernel
theorem dX1_spark_80 : decode cX1_spark 80 = .ok (.aload_n 0, 1) := by decide +kernel
theorem dX1_spark_81 : decode cX1_spark 81 = .ok (.getfield 47, 3) := by decide +kernel
theorem dX1_spark_84 : decode cX1_spark 84 = .ok (.iload_n 1, 1) := by decide +kernel
theorem dX1_spark_85 : decode cX1_spark 85 = .ok (.if_icmp .ne 21, 3) := by decide +kernel
theorem dX1_spark_88 : decode cX1_spark 88 = .ok (.iload_n 3, 1) := by decide +kernel
theorem dX1_spark_89 : decode cX1_spark 89 = .ok (.aload_n 0, 1) := by decide +kernel
theorem dX1_spark_90 : decode cX1_spark 90 = .ok (.getfield 50, 3) := by decide +kernel
theorem dX1_spark_93 : decode cX1_spark 93 = .ok (.if_icmp .ge 13, 3) := by decide +kernel
theorem dX1_spark_96 : decode cX1_spark 96 = .ok (.aload_n 0, 1) := by decide +kernel
theorem dX1_spark_97 : decode cX1_spark 97 = .ok (.iload_n 1, 1) := by decide +kernel
theorem dX1_spark_98 : decode cX1_spark 98 = .ok (.putfield 47, 3) := by decide +kernel
theorem dX1_spark_101 : decode cX1_spark 101 = .ok (.aload_n 0, 1) := by decide +kernel
theorem dX1_spark_102 : decode cX1_spark 102 = .ok (.iload_n 3, 1) := by decide +kernel
theorem dX1_spark_103 : decode cX1_spark 103 = .ok (.putfield 50, 3) := by decide +kernel
theorem dX1_spark_106 : decode cX1_spark 106 = .ok (.iinc 2 1, 3) := by decide +kernel
theorem dX1_spark_109 : decode cX1_spark 109 = .ok (.goto (-107), 3) := by decide +kernel
theorem dX1_spark_112 : decode cX1_spark 112 = .ok (.return_, 1) := by decide +kernel
theorem dX1_spread_0 : decode cX1_spread 0 = .ok (.iconst 0, 1) := by decide +kernel
theorem dX1_spread_1 : decode cX1_spread 1 = .ok (.istore_n 2, 1) := by decide +kernel
theorem dX1_spread_2 : decode cX1_spread 2 = .ok (.iload_n 2, 1) := by decide +kernel
theorem dX1_spread_3 : decode cX1_spread 3 = .ok (.bipush 8, 2) := by decide +kernel
theorem dX1_spread_5 : decode cX1_spread 5 = .ok (.if_icmp .ge 48, 3) := by decide +kernel
theorem dX1_spread_8 : decode cX1_spread 8 = .ok (.aload_n 0, 1) := by decide +kernel
theorem dX1_spread_9 : decode cX1_spread 9 = .ok (.getfield 21, 3) := by decide +kernel
theorem dX1_spread_12 : decode cX1_spread 12 = .ok (.iload_n 2, 1) := by decide +kernel
theorem dX1_spread_13 : decode cX1_spread 13 = .ok (.iaload, 1) := by decide +kernel
theorem dX1_spread_14 : decode cX1_spread 14 = .ok (.iconst (-1), 1) := by decide +kernel
theorem dX1_spread_15 : decode cX1_spread 15 = .ok (.if_icmp .ne 32, 3) := by decide +kernel
theorem dX1_spread_18 : decode cX1_spread 18 = .ok (.aload_n 0, 1) := by decide +kernel
theorem dX1_spread_19 : decode cX1_spread 19 = .ok (.iload_n 2, 1) := by decide +kernel
theorem dX1_spread_20 : decode cX1_spread 20 = .ok (.iconst 1, 1) := by decide +kernel
theorem dX1_spread_21 : decode cX1_spread 21 = .ok (.isub, 1) := by decide +kernel
theorem dX1_spread_22 : decode cX1_spread 22 = .ok (.iload_n 1, 1) := by decide +kernel
theorem dX1_spread_23 : decode cX1_spread 23 = .ok (.invokevirtual 123, 3) := by decide +kernel
theorem dX1_spread_26 : decode cX1_spread 26 = .ok (.ifCond .ne 14, 3) := by decide +kernel
theorem dX1_spread_29 : decode cX1_spread 29 = .ok (.aload_n 0, 1) := by decide +kernel
theorem dX1_spread_30 : decode cX1_spread 30 = .ok (.iload_n 2, 1) := by decide +kernel
theorem dX1_spread_31 : decode cX1_spread 31 = .ok (.iconst 1, 1) := by decide +kernel
theorem dX1_spread_32 : decode cX1_spread 32 = .ok (.iadd, 1) := by decide +kernel
theorem dX1_spread_33 : decode cX1_spread 33 = .ok (.iload_n 1, 1) := by decide +kernel
theorem dX1_spread_34 : decode cX1_spread 34 = .ok (.invokevirtual 123, 3) := by decide +kernel
theorem dX1_spread_37 : decode cX1_spread 37 = .ok (.ifCond .eq 10, 3) := by decide +kernel
theorem dX1_spread_40 : decode cX1_spread 40 = .ok (.aload_n 0, 1) := by decide +kernel
theorem dX1_spread_41 : decode cX1_spread 41 = .ok (.getfield 21, 3) := by decide +kernel
theorem dX1_spread_44 : decode cX1_spread 44 = .ok (.iload_n 2, 1) := by decide +kernel
theorem dX1_spread_45 : decode cX1_spread 45 = .ok (.iload_n 1, 1) := by decide +kernel
theorem dX1_spread_46 : decode cX1_spread 46 = .ok (.iastore, 1) := by decide +kernel
theorem dX1_spread_47 : decode cX1_spread 47 = .ok (.iinc 2 1, 3) := by decide +kernel
theorem dX1_spread_50 : decode cX1_spread 50 = .ok (.goto (-48), 3) := by decide +kernel
theorem dX1_spread_53 : decode cX1_spread 53 = .ok (.return_, 1) := by decide +kernel
theorem dX1_spreads_0 : decode cX1_spreads 0 = .ok (.iload_n 1, 1) := by decide +kernel
theorem dX1_spreads_1 : decode cX1_spreads 1 = .ok (.ifCond .lt 40, 3) := by decide +kernel
theorem dX1_spreads_4 : decode cX1_spreads 4 = .ok (.iload_n 1, 1) := by decide +kernel
theorem dX1_spreads_5 : decode cX1_spreads 5 = .ok (.bipush 8, 2) := by decide +kernel
theorem dX1_spreads_7 : decode cX1_spreads 7 = .ok (.if_icmp .ge 34, 3) := by decide +kernel
theorem dX1_spreads_10 : decode cX1_spreads 10 = .ok (.aload_n 0, 1) := by decide +kernel
theorem dX1_spreads_11 : decode cX1_spreads 11 = .ok (.getfield 21, 3) := by decide +kernel
theorem dX1_spreads_14 : decode cX1_spreads 14 = .ok (.iload_n 1, 1) := by decide +kernel
theorem dX1_spreads_15 : decode cX1_spreads 15 = .ok (.iaload, 1) := by decide +kernel
theorem dX1_spreads_16 : decode cX1_spreads 16 = .ok (.iconst (-1), 1) := by decide +kernel
theorem dX1_spreads_17 : decode cX1_spreads 17 = .ok (.if_icmp .eq 24, 3) := by decide +kernel
theorem dX1_spreads_20 : decode cX1_spreads 20 = .ok (.iload_n 2, 1) := by decide +kernel
theorem dX1_spreads_21 : decode cX1_spreads 21 = .ok (.aload_n 0, 1) := by decide +kernel
theorem dX1_spreads_22 : decode cX1_spreads 22 = .ok (.getfield 21, 3) := by decide +kernel
theorem dX1_spreads_25 : decode cX1_spreads 25 = .ok (.iload_n 1, 1) := by decide +kernel
theorem dX1_spreads_26 : decode cX1_spreads 26 = .ok (.iaload, 1) := by decide +kernel
theorem dX1_spreads_27 : decode cX1_spreads 27 = .ok (.isub, 1) := by decide +kernel
theorem dX1_spreads_28 : decode cX1_spreads 28 = .ok (.aload_n 0, 1) := by decide +kernel
theorem dX1_spreads_29 : decode cX1_spreads 29 = .ok (.getfield 9, 3) := by decide +kernel
theorem dX1_spreads_32 : decode cX1_spreads 32 = .ok (.iconst 5, 1) := by decide +kernel
theorem dX1_spreads_33 : decode cX1_spreads 33 = .ok (.iaload, 1) := by decide +kernel
theorem dX1_spreads_34 : decode cX1_spreads 34 = .ok (.if_icmp .lt 7, 3) := by decide +kernel
theorem dX1_spreads_37 : decode cX1_spreads 37 = .ok (.iconst 1, 1) := by decide +kernel
theorem dX1_spreads_38 : decode cX1_spreads 38 = .ok (.goto 4, 3) := by decide +kernel
theorem dX1_spreads_41 : decode cX1_spreads 41 = .ok (.iconst 0, 1) := by decide +kernel
theorem dX1_spreads_42 : decode cX1_spreads 42 = .ok (.ireturn, 1) := by decide +kernel
theorem dX1_burn_0 : decode cX1_burn 0 = .ok (.iconst 0, 1) := by decide +kernel
theorem dX1_burn_1 : decode cX1_burn 1 = .ok (.istore_n 1, 1) := by decide +kernel
theorem dX1_burn_2 : decode cX1_burn 2 = .ok (.iload_n 1, 1) := by decide +kernel
theorem dX1_burn_3 : decode cX1_burn 3 = .ok (.bipush 8, 2) := by decide +kernel
theorem dX1_burn_5 : decode cX1_burn 5 = .ok (.if_icmp .ge 50, 3) := by decide +kernel
theorem dX1_burn_8 : decode cX1_burn 8 = .ok (.aload_n 0, 1) := by decide +kernel
theorem dX1_burn_9 : decode cX1_burn 9 = .ok (.getfield 21, 3) := by decide +kernel
theorem dX1_burn_12 : decode cX1_burn 12 = .ok (.iload_n 1, 1) := by decide +kernel
theorem dX1_burn_13 : decode cX1_burn 13 = .ok (.iaload, 1) := by decide +kernel
theorem dX1_burn_14 : decode cX1_burn 14 = .ok (.iconst (-1), 1) := by decide +kernel
theorem dX1_burn_15 : decode cX1_burn 15 = .ok (.if_icmp .eq 34, 3) := by decide +kernel
theorem dX1_burn_18 : decode cX1_burn 18 = .ok (.aload_n 0, 1) := by decide +kernel
theorem dX1_burn_19 : decode cX1_burn 19 = .ok (.getfield 15, 3) := by decide +kernel
theorem dX1_burn_22 : decode cX1_burn 22 = .ok (.iload_n 1, 1) := by decide +kernel
theorem dX1_burn_23 : decode cX1_burn 23 = .ok (.iconst 0, 1) := by decide +kernel
theorem dX1_burn_24 : decode cX1_burn 24 = .ok (.aload_n 0, 1) := by decide +kernel
theorem dX1_burn_25 : decode cX1_burn 25 = .ok (.getfield 15, 3) := by decide +kernel
theorem dX1_burn_28 : decode cX1_burn 28 = .ok (.iload_n 1, 1) := by decide +kernel
theorem dX1_burn_29 : decode cX1_burn 29 = .ok (.iaload, 1) := by decide +kernel
theorem dX1_burn_30 : decode cX1_burn 30 = .ok (.aload_n 0, 1) := by decide +kernel
theorem dX1_burn_31 : decode cX1_burn 31 = .ok (.getfield 9, 3) := by decide +kernel
theorem dX1_burn_34 : decode cX1_burn 34 = .ok (.bipush 6, 2) := by decide +kernel
theorem dX1_burn_36 : decode cX1_burn 36 = .ok (.iaload, 1) := by decide +kernel
theorem dX1_burn_37 : decode cX1_burn 37 = .ok (.isub, 1) := by decide +kernel
theorem dX1_burn_38 : decode cX1_burn 38 = .ok (.invokestatic 98, 3) := by decide +kernel
theorem dX1_burn_41 : decode cX1_burn 41 = .ok (.iastore, 1) := by decide +kernel
theorem dX1_burn_42 : decode cX1_burn 42 = .ok (.aload_n 0, 1) := by decide +kernel
theorem dX1_burn_43 : decode cX1_burn 43 = .ok (.getfield 18, 3) := by decide +kernel
theorem dX1_burn_46 : decode cX1_burn 46 = .ok (.iload_n 1, 1) := by decide +kernel
theorem dX1_burn_47 : decode cX1_burn 47 = .ok (.iconst 0, 1) := by decide +kernel
theorem dX1_burn_48 : decode cX1_burn 48 = .ok (.iastore, 1) := by decide +kernel
theorem dX1_burn_49 : decode cX1_burn 49 = .ok (.iinc 1 1, 3) := by decide +kernel
theorem dX1_burn_52 : decode cX1_burn 52 = .ok (.goto (-50), 3) := by decide +kernel
theorem dX1_burn_55 : decode cX1_burn 55 = .ok (.return_, 1) := by decide +kernel
theorem dX1_sink_0 : decode cX1_sink 0 = .ok (.iconst 0, 1) := by decide +kernel
theorem dX1_sink_1 : decode cX1_sink 1 = .ok (.istore_n 2, 1) := by decide +kernel
theorem dX1_sink_2 : decode cX1_sink 2 = .ok (.iconst 0, 1) := by decide +kernel
theorem dX1_sink_3 : decode cX1_sink 3 = .ok (.istore_n 3, 1) := by decide +kernel
theorem dX1_sink_4 : decode cX1_sink 4 = .ok (.iload_n 3, 1) := by decide +kernel
theorem dX1_sink_5 : decode cX1_sink 5 = .ok (.bipush 8, 2) := by decide +kernel
theorem dX1_sink_7 : decode cX1_sink 7 = .ok (.if_icmp .ge 18, 3) := by decide +kernel
theorem dX1_sink_10 : decode cX1_sink 10 = .ok (.iload_n 2, 1) := by decide +kernel
theorem dX1_sink_11 : decode cX1_sink 11 = .ok (.aload_n 0, 1) := by decide +kernel
theorem dX1_sink_12 : decode cX1_sink 12 = .ok (.getfield 15, 3) := by decide +kernel
theorem dX1_sink_15 : decode cX1_sink 15 = .ok (.iload_n 3, 1) := by decide +kernel
theorem dX1_sink_16 : decode cX1_sink 16 = .ok (.iaload, 1) := by decide +kernel
theorem dX1_sink_17 : decode cX1_sink 17 = .ok (.iadd, 1) := by decide +kernel
theorem dX1_sink_18 : decode cX1_sink 18 = .ok (.istore_n 2, 1) := by decide +kernel
theorem dX1_sink_19 : decode cX1_sink 19 = .ok (.iinc 3 1, 3) := by decide +kernel
theorem dX1_sink_22 : decode cX1_sink 22 = .ok (.goto (-18), 3) := by decide +kernel
theorem dX1_sink_25 : decode cX1_sink 25 = .ok (.iload_n 2, 1) := by decide +kernel
theorem dX1_sink_26 : decode cX1_sink 26 = .ok (.aload_n 0, 1) := by decide +kernel
theorem dX1_sink_27 : decode cX1_sink 27 = .ok (.getfield 9, 3) := by decide +kernel
theorem dX1_sink_30 : decode cX1_sink 30 = .ok (.bipush 7, 2) := by decide +kernel
theorem dX1_sink_32 : decode cX1_sink 32 = .ok (.iaload, 1) := by decide +kernel
theorem dX1_sink_33 : decode cX1_sink 33 = .ok (.if_icmp .ge 43, 3) := by decide +kernel
theorem dX1_sink_36 : decode cX1_sink 36 = .ok (.aload_n 0, 1) := by decide +kernel
theorem dX1_sink_37 : decode cX1_sink 37 = .ok (.iconst 0, 1) := by decide +kernel
theorem dX1_sink_38 : decode cX1_sink 38 = .ok (.aload_n 0, 1) := by decide +kernel
theorem dX1_sink_39 : decode cX1_sink 39 = .ok (.getfield 44, 3) := by decide +kernel
theorem dX1_sink_42 : decode cX1_sink 42 = .ok (.aload_n 0, 1) := by decide +kernel
theorem dX1_sink_43 : decode cX1_sink 43 = .ok (.getfield 9, 3) := by decide +kernel
theorem dX1_sink_46 : decode cX1_sink 46 = .ok (.bipush 8, 2) := by decide +kernel
theorem dX1_sink_48 : decode cX1_sink 48 = .ok (.iaload, 1) := by decide +kernel
theorem dX1_sink_49 : decode cX1_sink 49 = .ok (.isub, 1) := by decide +kernel
theorem dX1_sink_50 : decode cX1_sink 50 = .ok (.invokestatic 98, 3) := by decide +kernel
theorem dX1_sink_53 : decode cX1_sink 53 = .ok (.putfield 44, 3) := by decide +kernel
theorem dX1_sink_56 : decode cX1_sink 56 = .ok (.aload_n 0, 1) := by decide +kernel
theorem dX1_sink_57 : decode cX1_sink 57 = .ok (.getfield 44, 3) := by decide +kernel
theorem dX1_sink_60 : decode cX1_sink 60 = .ok (.ifCond .ne 16, 3) := by decide +kernel
theorem dX1_sink_63 : decode cX1_sink 63 = .ok (.aload_n 0, 1) := by decide +kernel
theorem dX1_sink_64 : decode cX1_sink 64 = .ok (.getfield 53, 3) := by decide +kernel
theorem dX1_sink_67 : decode cX1_sink 67 = .ok (.iconst (-1), 1) := by decide +kernel
theorem dX1_sink_68 : decode cX1_sink 68 = .ok (.if_icmp .ne 8, 3) := by decide +kernel
theorem dX1_sink_71 : decode cX1_sink 71 = .ok (.aload_n 0, 1) := by decide +kernel
theorem dX1_sink_72 : decode cX1_sink 72 = .ok (.iload_n 1, 1) := by decide +kernel
theorem dX1_sink_73 : decode cX1_sink 73 = .ok (.putfield 53, 3) := by decide +kernel
theorem dX1_sink_76 : decode cX1_sink 76 = .ok (.return_, 1) := by decide +kernel
theorem dX1_holds_0 : decode cX1_holds 0 = .ok (.iconst 0, 1) := by decide +kernel
theorem dX1_holds_1 : decode cX1_holds 1 = .ok (.istore_n 3, 1) := by decide +kernel
theorem dX1_holds_2 : decode cX1_holds 2 = .ok (.aload_n 0, 1) := by decide +kernel
theorem dX1_holds_3 : decode cX1_holds 3 = .ok (.getfield 30, 3) := by decide +kernel
theorem dX1_holds_6 : decode cX1_holds 6 = .ok (.getfield 126, 3) := by decide +kernel
theorem dX1_holds_9 : decode cX1_holds 9 = .ok (.iload_n 1, 1) := by decide +kernel
theorem dX1_holds_10 : decode cX1_holds 10 = .ok (.iaload, 1) := by decide +kernel
theorem dX1_holds_11 : decode cX1_holds 11 = .ok (.istore 4, 2) := by decide +kernel
theorem dX1_holds_13 : decode cX1_holds 13 = .ok (.iload 4, 2) := by decide +kernel
theorem dX1_holds_15 : decode cX1_holds 15 = .ok (.aload_n 0, 1) := by decide +kernel
theorem dX1_holds_16 : decode cX1_holds 16 = .ok (.getfield 30, 3) := by decide +kernel
theorem dX1_holds_19 : decode cX1_holds 19 = .ok (.getfield 129, 3) := by decide +kernel
theorem dX1_holds_22 : decode cX1_holds 22 = .ok (.iload_n 1, 1) := by decide +kernel
theorem dX1_holds_23 : decode cX1_holds 23 = .ok (.iaload, 1) := by decide +kernel
theorem dX1_holds_24 : decode cX1_holds 24 = .ok (.if_icmp .ge 140, 3) := by decide +kernel
theorem dX1_holds_27 : decode cX1_holds 27 = .ok (.aload_n 0, 1) := by decide +kernel
theorem dX1_holds_28 : decode cX1_holds 28 = .ok (.getfield 30, 3) := by decide +kernel
theorem dX1_holds_31 : decode cX1_holds 31 = .ok (.getfield 132, 3) := by decide +kernel
theorem dX1_holds_34 : decode cX1_holds 34 = .ok (.iload 4, 2) := by decide +kernel
theorem dX1_holds_36 : decode cX1_holds 36 = .ok (.iaload, 1) := by decide +kernel
theorem dX1_holds_37 : decode cX1_holds 37 = .ok (.istore 5, 2) := by decide +kernel
theorem dX1_holds_39 : decode cX1_holds 39 = .ok (.iload 5, 2) := by decide +kernel
theorem dX1_holds_41 : decode cX1_holds 41 = .ok (.bipush (-7), 2) := by decide +kernel
theorem dX1_holds_43 : decode cX1_holds 43 = .ok (.if_icmp .lt 47, 3) := by decide +kernel
theorem dX1_holds_46 : decode cX1_holds 46 = .ok (.iload_n 3, 1) := by decide +kernel
theorem dX1_holds_47 : decode cX1_holds 47 = .ok (.bipush 32, 2) := by decide +kernel
theorem dX1_holds_49 : decode cX1_holds 49 = .ok (.if_icmp .ge 109, 3) := by decide +kernel
theorem dX1_holds_52 : decode cX1_holds 52 = .ok (.aload_n 0, 1) := by decide +kernel
theorem dX1_holds_53 : decode cX1_holds 53 = .ok (.getfield 24, 3) := by decide +kernel
theorem dX1_holds_56 : decode cX1_holds 56 = .ok (.iload_n 3, 1) := by decide +kernel
theorem dX1_holds_57 : decode cX1_holds 57 = .ok (.iload 5, 2) := by decide +kernel
theorem dX1_holds_59 : decode cX1_holds 59 = .ok (.ifCond .lt 8, 3) := by decide +kernel
theorem dX1_holds_62 : decode cX1_holds 62 = .ok (.iload 5, 2) := by decide +kernel
theorem dX1_holds_64 : decode cX1_holds 64 = .ok (.goto 19, 3) := by decide +kernel
theorem dX1_holds_67 : decode cX1_holds 67 = .ok (.aload_n 0, 1) := by decide +kernel
theorem dX1_holds_68 : decode cX1_holds 68 = .ok (.iload 5, 2) := by decide +kernel
theorem dX1_holds_70 : decode cX1_holds 70 = .ok (.aload_n 0, 1) := by decide +kernel
theorem dX1_holds_71 : decode cX1_holds 71 = .ok (.getfield 30, 3) := by decide +kernel
theorem dX1_holds_74 : decode cX1_holds 74 = .ok (.getfield 72, 3) := by decide +kernel
theorem dX1_holds_77 : decode cX1_holds 77 = .ok (.iload_n 1, 1) := by decide +kernel
theorem dX1_holds_78 : decode cX1_holds 78 = .ok (.iaload, 1) := by decide +kernel
theorem dX1_holds_79 : decode cX1_holds 79 = .ok (.iload_n 2, 1) := by decide +kernel
theorem dX1_holds_80 : decode cX1_holds 80 = .ok (.invokevirtual 135, 3) := by decide +kernel
theorem dX1_holds_83 : decode cX1_holds 83 = .ok (.iastore, 1) := by decide +kernel
theorem dX1_holds_84 : decode cX1_holds 84 = .ok (.iinc 3 1, 3) := by decide +kernel
theorem dX1_holds_87 : decode cX1_holds 87 = .ok (.goto 71, 3) := by decide +kernel
theorem dX1_holds_90 : decode cX1_holds 90 = .ok (.iload 5, 2) := by decide +kernel
theorem dX1_holds_92 : decode cX1_holds 92 = .ok (.bipush (-8), 2) := by decide +kernel
theorem dX1_holds_94 : decode cX1_holds 94 = .ok (.if_icmp .ne 29, 3) := by decide +kernel
theorem dX1_holds_97 : decode cX1_holds 97 = .ok (.iload_n 3, 1) := by decide +kernel
theorem dX1_holds_98 : decode cX1_holds 98 = .ok (.iconst 1, 1) := by decide +kernel
theorem dX1_holds_99 : decode cX1_holds 99 = .ok (.if_icmp .lt 59, 3) := by decide +kernel
theorem dX1_holds_102 : decode cX1_holds 102 = .ok (.aload_n 0, 1) := by decide +kernel
theorem dX1_holds_103 : decode cX1_holds 103 = .ok (.getfield 24, 3) := by decide +kernel
theorem dX1_holds_106 : decode cX1_holds 106 = .ok (.iload_n 3, 1) := by decide +kernel
theorem dX1_holds_107 : decode cX1_holds 107 = .ok (.iconst 1, 1) := by decide +kernel
theorem dX1_holds_108 : decode cX1_holds 108 = .ok (.isub, 1) := by decide +kernel
theorem dX1_holds_109 : decode cX1_holds 109 = .ok (.iconst 1, 1) := by decide +kernel
theorem dX1_holds_110 : decode cX1_holds 110 = .ok (.aload_n 0, 1) := by decide +kernel
theorem dX1_holds_111 : decode cX1_holds 111 = .ok (.getfield 24, 3) := by decide +kernel
theorem dX1_holds_114 : decode cX1_holds 114 = .ok (.iload_n 3, 1) := by decide +kernel
theorem dX1_holds_115 : decode cX1_holds 115 = .ok (.iconst 1, 1) := by decide +kernel
theorem dX1_holds_116 : decode cX1_holds 116 = .ok (.isub, 1) := by decide +kernel
theorem dX1_holds_117 : decode cX1_holds 117 = .ok (.iaload, 1) := by decide +kernel
theorem dX1_holds_118 : decode cX1_holds 118 = .ok (.isub, 1) := by decide +kernel
theorem dX1_holds_119 : decode cX1_holds 119 = .ok (.iastore, 1) := by decide +kernel
theorem dX1_holds_120 : decode cX1_holds 120 = .ok (.goto 38, 3) := by decide +kernel
theorem dX1_holds_123 : decode cX1_holds 123 = .ok (.iload_n 3, 1) := by decide +kernel
theorem dX1_holds_124 : decode cX1_holds 124 = .ok (.iconst 2, 1) := by decide +kernel
theorem dX1_holds_125 : decode cX1_holds 125 = .ok (.if_icmp .lt 33, 3) := by decide +kernel
theorem dX1_holds_128 : decode cX1_holds 128 = .ok (.iinc 3 (-1), 3) := by decide +kernel
theorem dX1_holds_131 : decode cX1_holds 131 = .ok (.aload_n 0, 1) := by decide +kernel
theorem dX1_holds_132 : decode cX1_holds 132 = .ok (.getfield 24, 3) := by decide +kernel
theorem dX1_holds_135 : decode cX1_holds 135 = .ok (.iload_n 3, 1) := by decide +kernel
theorem dX1_holds_136 : decode cX1_holds 136 = .ok (.iconst 1, 1) := by decide +kernel
theorem dX1_holds_137 : decode cX1_holds 137 = .ok (.isub, 1) := by decide +kernel
theorem dX1_holds_138 : decode cX1_holds 138 = .ok (.iload 5, 2) := by decide +kernel
theorem dX1_holds_140 : decode cX1_holds 140 = .ok (.aload_n 0, 1) := by decide +kernel
theorem dX1_holds_141 : decode cX1_holds 141 = .ok (.getfield 24, 3) := by decide +kernel
theorem dX1_holds_144 : decode cX1_holds 144 = .ok (.iload_n 3, 1) := by decide +kernel
theorem dX1_holds_145 : decode cX1_holds 145 = .ok (.iconst 1, 1) := by decide +kernel
theorem dX1_holds_146 : decode cX1_holds 146 = .ok (.isub, 1) := by decide +kernel
theorem dX1_holds_147 : decode cX1_holds 147 = .ok (.iaload, 1) := by decide +kernel
theorem dX1_holds_148 : decode cX1_holds 148 = .ok (.aload_n 0, 1) := by decide +kernel
theorem dX1_holds_149 : decode cX1_holds 149 = .ok (.getfield 24, 3) := by decide +kernel
theorem dX1_holds_152 : decode cX1_holds 152 = .ok (.iload_n 3, 1) := by decide +kernel
theorem dX1_holds_153 : decode cX1_holds 153 = .ok (.iaload, 1) := by decide +kernel
theorem dX1_holds_154 : decode cX1_holds 154 = .ok (.invokestatic 139, 3) := by decide +kernel
theorem dX1_holds_157 : decode cX1_holds 157 = .ok (.iastore, 1) := by decide +kernel
theorem dX1_holds_158 : decode cX1_holds 158 = .ok (.iinc 4 1, 3) := by decide +kernel
theorem dX1_holds_161 : decode cX1_holds 161 = .ok (.goto (-148), 3) := by decide +kernel
theorem dX1_holds_164 : decode cX1_holds 164 = .ok (.iload_n 3, 1) := by decide +kernel
theorem dX1_holds_165 : decode cX1_holds 165 = .ok (.ifCond .le 19, 3) := by decide +kernel
theorem dX1_holds_168 : decode cX1_holds 168 = .ok (.aload_n 0, 1) := by decide +kernel
theorem dX1_holds_169 : decode cX1_holds 169 = .ok (.getfield 24, 3) := by decide +kernel
theorem dX1_holds_172 : decode cX1_holds 172 = .ok (.iload_n 3, 1) := by decide +kernel
theorem dX1_holds_173 : decode cX1_holds 173 = .ok (.iconst 1, 1) := by decide +kernel
theorem dX1_holds_174 : decode cX1_holds 174 = .ok (.isub, 1) := by decide +kernel
theorem dX1_holds_175 : decode cX1_holds 175 = .ok (.iaload, 1) := by decide +kernel
theorem dX1_holds_176 : decode cX1_holds 176 = .ok (.iconst 1, 1) := by decide +kernel
theorem dX1_holds_177 : decode cX1_holds 177 = .ok (.if_icmp .ne 7, 3) := by decide +kernel
theorem dX1_holds_180 : decode cX1_holds 180 = .ok (.iconst 1, 1) := by decide +kernel
theorem dX1_holds_181 : decode cX1_holds 181 = .ok (.goto 4, 3) := by decide +kernel
theorem dX1_holds_184 : decode cX1_holds 184 = .ok (.iconst 0, 1) := by decide +kernel
theorem dX1_holds_185 : decode cX1_holds 185 = .ok (.ireturn, 1) := by decide +kernel
theorem dX1_seen_0 : decode cX1_seen 0 = .ok (.iload_n 1, 1) := by decide +kernel
theorem dX1_seen_1 : decode cX1_seen 1 = .ok (.tableswitch 75 (-6) (-1) #[68, 61, 56, 51, 41, 39], 39) := by decide +kernel
theorem dX1_seen_40 : decode cX1_seen 40 = .ok (.iload_n 3, 1) := by decide +kernel
theorem dX1_seen_41 : decode cX1_seen 41 = .ok (.ireturn, 1) := by decide +kernel
theorem dX1_seen_42 : decode cX1_seen 42 = .ok (.aload_n 0, 1) := by decide +kernel
theorem dX1_seen_43 : decode cX1_seen 43 = .ok (.getfield 38, 3) := by decide +kernel
theorem dX1_seen_46 : decode cX1_seen 46 = .ok (.aload_n 0, 1) := by decide +kernel
theorem dX1_seen_47 : decode cX1_seen 47 = .ok (.getfield 41, 3) := by decide +kernel
theorem dX1_seen_50 : decode cX1_seen 50 = .ok (.isub, 1) := by decide +kernel
theorem dX1_seen_51 : decode cX1_seen 51 = .ok (.ireturn, 1) := by decide +kernel
theorem dX1_seen_52 : decode cX1_seen 52 = .ok (.aload_n 0, 1) := by decide +kernel
theorem dX1_seen_53 : decode cX1_seen 53 = .ok (.getfield 34, 3) := by decide +kernel
theorem dX1_seen_56 : decode cX1_seen 56 = .ok (.ireturn, 1) := by decide +kernel
theorem dX1_seen_57 : decode cX1_seen 57 = .ok (.aload_n 0, 1) := by decide +kernel
theorem dX1_seen_58 : decode cX1_seen 58 = .ok (.getfield 44, 3) := by decide +kernel
theorem dX1_seen_61 : decode cX1_seen 61 = .ok (.ireturn, 1) := by decide +kernel
theorem dX1_seen_62 : decode cX1_seen 62 = .ok (.aload_n 0, 1) := by decide +kernel
theorem dX1_seen_63 : decode cX1_seen 63 = .ok (.getfield 18, 3) := by decide +kernel
theorem dX1_seen_66 : decode cX1_seen 66 = .ok (.iload_n 2, 1) := by decide +kernel
theorem dX1_seen_67 : decode cX1_seen 67 = .ok (.iaload, 1) := by decide +kernel
theorem dX1_seen_68 : decode cX1_seen 68 = .ok (.ireturn, 1) := by decide +kernel
theorem dX1_seen_69 : decode cX1_seen 69 = .ok (.aload_n 0, 1) := by decide +kernel
theorem dX1_seen_70 : decode cX1_seen 70 = .ok (.getfield 15, 3) := by decide +kernel
theorem dX1_seen_73 : decode cX1_seen 73 = .ok (.iload_n 2, 1) := by decide +kernel
theorem dX1_seen_74 : decode cX1_seen 74 = .ok (.iaload, 1) := by decide +kernel
theorem dX1_seen_75 : decode cX1_seen 75 = .ok (.ireturn, 1) := by decide +kernel
theorem dX1_seen_76 : decode cX1_seen 76 = .ok (.aload_n 0, 1) := by decide +kernel
theorem dX1_seen_77 : decode cX1_seen 77 = .ok (.getfield 21, 3) := by decide +kernel
theorem dX1_seen_80 : decode cX1_seen 80 = .ok (.iload_n 2, 1) := by decide +kernel
theorem dX1_seen_81 : decode cX1_seen 81 = .ok (.iaload, 1) := by decide +kernel
theorem dX1_seen_82 : decode cX1_seen 82 = .ok (.iconst (-1), 1) := by decide +kernel
theorem dX1_seen_83 : decode cX1_seen 83 = .ok (.if_icmp .eq 7, 3) := by decide +kernel
theorem dX1_seen_86 : decode cX1_seen 86 = .ok (.iconst 1, 1) := by decide +kernel
theorem dX1_seen_87 : decode cX1_seen 87 = .ok (.goto 4, 3) := by decide +kernel
theorem dX1_seen_90 : decode cX1_seen 90 = .ok (.iconst 0, 1) := by decide +kernel
theorem dX1_seen_91 : decode cX1_seen 91 = .ok (.ireturn, 1) := by decide +kernel
theorem dX1_joined_0 : decode cX1_joined 0 = .ok (.iload_n 0, 1) := by decide +kernel
theorem dX1_joined_1 : decode cX1_joined 1 = .ok (.tableswitch 92 (-15) (-9) #[88, 84, 73, 62, 51, 47, 43], 43) := by decide +kernel
theorem dX1_joined_44 : decode cX1_joined 44 = .ok (.iload_n 1, 1) := by decide +kernel
theorem dX1_joined_45 : decode cX1_joined 45 = .ok (.iload_n 2, 1) := by decide +kernel
theorem dX1_joined_46 : decode cX1_joined 46 = .ok (.iand, 1) := by decide +kernel
theorem dX1_joined_47 : decode cX1_joined 47 = .ok (.ireturn, 1) := by decide +kernel
theorem dX1_joined_48 : decode cX1_joined 48 = .ok (.iload_n 1, 1) := by decide +kernel
theorem dX1_joined_49 : decode cX1_joined 49 = .ok (.iload_n 2, 1) := by decide +kernel
theorem dX1_joined_50 : decode cX1_joined 50 = .ok (.ior, 1) := by decide +kernel
theorem dX1_joined_51 : decode cX1_joined 51 = .ok (.ireturn, 1) := by decide +kernel
theorem dX1_joined_52 : decode cX1_joined 52 = .ok (.iload_n 1, 1) := by decide +kernel
theorem dX1_joined_53 : decode cX1_joined 53 = .ok (.iload_n 2, 1) := by decide +kernel
theorem dX1_joined_54 : decode cX1_joined 54 = .ok (.if_icmp .ge 7, 3) := by decide +kernel
theorem dX1_joined_57 : decode cX1_joined 57 = .ok (.iconst 1, 1) := by decide +kernel
theorem dX1_joined_58 : decode cX1_joined 58 = .ok (.goto 4, 3) := by decide +kernel
theorem dX1_joined_61 : decode cX1_joined 61 = .ok (.iconst 0, 1) := by decide +kernel
theorem dX1_joined_62 : decode cX1_joined 62 = .ok (.ireturn, 1) := by decide +kernel
theorem dX1_joined_63 : decode cX1_joined 63 = .ok (.iload_n 1, 1) := by decide +kernel
theorem dX1_joined_64 : decode cX1_joined 64 = .ok (.iload_n 2, 1) := by decide +kernel
theorem dX1_joined_65 : decode cX1_joined 65 = .ok (.if_icmp .le 7, 3) := by decide +kernel
theorem dX1_joined_68 : decode cX1_joined 68 = .ok (.iconst 1, 1) := by decide +kernel
theorem dX1_joined_69 : decode cX1_joined 69 = .ok (.goto 4, 3) := by decide +kernel
theorem dX1_joined_72 : decode cX1_joined 72 = .ok (.iconst 0, 1) := by decide +kernel
theorem dX1_joined_73 : decode cX1_joined 73 = .ok (.ireturn, 1) := by decide +kernel
theorem dX1_joined_74 : decode cX1_joined 74 = .ok (.iload_n 1, 1) := by decide +kernel
theorem dX1_joined_75 : decode cX1_joined 75 = .ok (.iload_n 2, 1) := by decide +kernel
theorem dX1_joined_76 : decode cX1_joined 76 = .ok (.if_icmp .ne 7, 3) := by decide +kernel
theorem dX1_joined_79 : decode cX1_joined 79 = .ok (.iconst 1, 1) := by decide +kernel
theorem dX1_joined_80 : decode cX1_joined 80 = .ok (.goto 4, 3) := by decide +kernel
theorem dX1_joined_83 : decode cX1_joined 83 = .ok (.iconst 0, 1) := by decide +kernel
theorem dX1_joined_84 : decode cX1_joined 84 = .ok (.ireturn, 1) := by decide +kernel
theorem dX1_joined_85 : decode cX1_joined 85 = .ok (.iload_n 1, 1) := by decide +kernel
theorem dX1_joined_86 : decode cX1_joined 86 = .ok (.iload_n 2, 1) := by decide +kernel
theorem dX1_joined_87 : decode cX1_joined 87 = .ok (.iadd, 1) := by decide +kernel
theorem dX1_joined_88 : decode cX1_joined 88 = .ok (.ireturn, 1) := by decide +kernel
theorem dX1_joined_89 : decode cX1_joined 89 = .ok (.iload_n 1, 1) := by decide +kernel
theorem dX1_joined_90 : decode cX1_joined 90 = .ok (.iload_n 2, 1) := by decide +kernel
theorem dX1_joined_91 : decode cX1_joined 91 = .ok (.isub, 1) := by decide +kernel
theorem dX1_joined_92 : decode cX1_joined 92 = .ok (.ireturn, 1) := by decide +kernel
theorem dX1_joined_93 : decode cX1_joined 93 = .ok (.iload_n 1, 1) := by decide +kernel
theorem dX1_joined_94 : decode cX1_joined 94 = .ok (.iload_n 2, 1) := by decide +kernel
theorem dX1_joined_95 : decode cX1_joined 95 = .ok (.imul, 1) := by decide +kernel
theorem dX1_joined_96 : decode cX1_joined 96 = .ok (.ireturn, 1) := by decide +kernel
theorem dX2_init_0 : decode cX2_init 0 = .ok (.aload_n 0, 1) := by decide +kernel
theorem dX2_init_1 : decode cX2_init 1 = .ok (.invokespecial 3, 3) := by decide +kernel
theorem dX2_init_4 : decode cX2_init 4 = .ok (.aload_n 0, 1) := by decide +kernel
theorem dX2_init_5 : decode cX2_init 5 = .ok (.bipush 10, 2) := by decide +kernel
theorem dX2_init_7 : decode cX2_init 7 = .ok (.newarray .int, 2) := by decide +kernel
theorem dX2_init_9 : decode cX2_init 9 = .ok (.putfield 9, 3) := by decide +kernel
theorem dX2_init_12 : decode cX2_init 12 = .ok (.aload_n 0, 1) := by decide +kernel
theorem dX2_init_13 : decode cX2_init 13 = .ok (.bipush 8, 2) := by decide +kernel
theorem dX2_init_15 : decode cX2_init 15 = .ok (.newarray .int, 2) := by decide +kernel
theorem dX2_init_17 : decode cX2_init 17 = .ok (.putfield 15, 3) := by decide +kernel
theorem dX2_init_20 : decode cX2_init 20 = .ok (.aload_n 0, 1) := by decide +kernel
theorem dX2_init_21 : decode cX2_init 21 = .ok (.bipush 6, 2) := by decide +kernel
theorem dX2_init_23 : decode cX2_init 23 = .ok (.newarray .int, 2) := by decide +kernel
theorem dX2_init_25 : decode cX2_init 25 = .ok (.putfield 18, 3) := by decide +kernel
theorem dX2_init_28 : decode cX2_init 28 = .ok (.aload_n 0, 1) := by decide +kernel
theorem dX2_init_29 : decode cX2_init 29 = .ok (.iconst 0, 1) := by decide +kernel
theorem dX2_init_30 : decode cX2_init 30 = .ok (.putfield 21, 3) := by decide +kernel
theorem dX2_init_33 : decode cX2_init 33 = .ok (.aload_n 0, 1) := by decide +kernel
theorem dX2_init_34 : decode cX2_init 34 = .ok (.bipush 10, 2) := by decide +kernel
theorem dX2_init_36 : decode cX2_init 36 = .ok (.newarray .int, 2) := by decide +kernel
theorem dX2_init_38 : decode cX2_init 38 = .ok (.putfield 25, 3) := by decide +kernel
theorem dX2_init_41 : decode cX2_init 41 = .ok (.aload_n 0, 1) := by decide +kernel
theorem dX2_init_42 : decode cX2_init 42 = .ok (.bipush 10, 2) := by decide +kernel
theorem dX2_init_44 : decode cX2_init 44 = .ok (.newarray .int, 2) := by decide +kernel
theorem dX2_init_46 : decode cX2_init 46 = .ok (.putfield 28, 3) := by decide +kernel
theorem dX2_init_49 : decode cX2_init 49 = .ok (.aload_n 0, 1) := by decide +kernel
theorem dX2_init_50 : decode cX2_init 50 = .ok (.bipush 10, 2) := by decide +kernel
theorem dX2_init_52 : decode cX2_init 52 = .ok (.newarray .int, 2) := by decide +kernel
theorem dX2_init_54 : decode cX2_init 54 = .ok (.putfield 31, 3) := by decide +kernel
theorem dX2_init_57 : decode cX2_init 57 = .ok (.aload_n 0, 1) := by decide +kernel
theorem dX2_init_58 : decode cX2_init 58 = .ok (.bipush 10, 2) := by decide +kernel
theorem dX2_init_60 : decode cX2_init 60 = .ok (.newarray .int, 2) := by decide +kernel
theorem dX2_init_62 : decode cX2_init 62 = .ok (.putfield 34, 3) := by decide +kernel
theorem dX2_init_65 : decode cX2_init 65 = .ok (.aload_n 0, 1) := by decide +kernel
theorem dX2_init_66 : decode cX2_init 66 = .ok (.bipush 10, 2) := by decide +kernel
theorem dX2_init_68 : decode cX2_init 68 = .ok (.newarray .int, 2) := by decide +kernel
theorem dX2_init_70 : decode cX2_init 70 = .ok (.putfield 37, 3) := by decide +kernel
theorem dX2_init_73 : decode cX2_init 73 = .ok (.aload_n 0, 1) := by decide +kernel
theorem dX2_init_74 : decode cX2_init 74 = .ok (.bipush 10, 2) := by decide +kernel
theorem dX2_init_76 : decode cX2_init 76 = .ok (.newarray .int, 2) := by decide +kernel
theorem dX2_init_78 : decode cX2_init 78 = .ok (.putfield 40, 3) := by decide +kernel
theorem dX2_init_81 : decode cX2_init 81 = .ok (.aload_n 0, 1) := by decide +kernel
theorem dX2_init_82 : decode cX2_init 82 = .ok (.iconst 0, 1) := by decide +kernel
theorem dX2_init_83 : decode cX2_init 83 = .ok (.putfield 43, 3) := by decide +kernel
theorem dX2_init_86 : decode cX2_init 86 = .ok (.aload_n 0, 1) := by decide +kernel
theorem dX2_init_87 : decode cX2_init 87 = .ok (.bipush 10, 2) := by decide +kernel
theorem dX2_init_89 : decode cX2_init 89 = .ok (.newarray .int, 2) := by decide +kernel
theorem dX2_init_91 : decode cX2_init 91 = .ok (.putfield 46, 3) := by decide +kernel
theorem dX2_init_94 : decode cX2_init 94 = .ok (.aload_n 0, 1) := by decide +kernel
theorem dX2_init_95 : decode cX2_init 95 = .ok (.bipush 10, 2) := by decide +kernel
theorem dX2_init_97 : decode cX2_init 97 = .ok (.newarray .int, 2) := by decide +kernel
theorem dX2_init_99 : decode cX2_init 99 = .ok (.putfield 49, 3) := by decide +kernel
theorem dX2_init_102 : decode cX2_init 102 = .ok (.aload_n 0, 1) := by decide +kernel
theorem dX2_init_103 : decode cX2_init 103 = .ok (.iconst 0, 1) := by decide +kernel
theorem dX2_init_104 : decode cX2_init 104 = .ok (.putfield 52, 3) := by decide +kernel
theorem dX2_init_107 : decode cX2_init 107 = .ok (.aload_n 0, 1) := by decide +kernel
theorem dX2_init_108 : decode cX2_init 108 = .ok (.iconst 5, 1) := by decide +kernel
theorem dX2_init_109 : decode cX2_init 109 = .ok (.newarray .int, 2) := by decide +kernel
theorem dX2_init_111 : decode cX2_init 111 = .ok (.putfield 55, 3) := by decide +kernel
theorem dX2_init_114 : decode cX2_init 114 = .ok (.aload_n 0, 1) := by decide +kernel
theorem dX2_init_115 : decode cX2_init 115 = .ok (.iconst 5, 1) := by decide +kernel
theorem dX2_init_116 : decode cX2_init 116 = .ok (.newarray .int, 2) := by decide +kernel
theorem dX2_init_118 : decode cX2_init 118 = .ok (.putfield 58, 3) := by decide +kernel
theorem dX2_init_121 : decode cX2_init 121 = .ok (.aload_n 0, 1) := by decide +kernel
theorem dX2_init_122 : decode cX2_init 122 = .ok (.iconst 5, 1) := by decide +kernel
theorem dX2_init_123 : decode cX2_init 123 = .ok (.newarray .int, 2) := by decide +kernel
theorem dX2_init_125 : decode cX2_init 125 = .ok (.putfield 61, 3) := by decide +kernel
theorem dX2_init_128 : decode cX2_init 128 = .ok (.getstatic 64, 3) := by decide +kernel
theorem dX2_init_131 : decode cX2_init 131 = .ok (.iconst 0, 1) := by decide +kernel
theorem dX2_init_132 : decode cX2_init 132 = .ok (.aload_n 0, 1) := by decide +kernel
theorem dX2_init_133 : decode cX2_init 133 = .ok (.getfield 9, 3) := by decide +kernel
theorem dX2_init_136 : decode cX2_init 136 = .ok (.iconst 0, 1) := by decide +kernel
theorem dX2_init_137 : decode cX2_init 137 = .ok (.bipush 10, 2) := by decide +kernel
theorem dX2_init_139 : decode cX2_init 139 = .ok (.invokestatic 67, 3) := by decide +kernel
theorem dX2_init_142 : decode cX2_init 142 = .ok (.aload_n 0, 1) := by decide +kernel
theorem dX2_init_143 : decode cX2_init 143 = .ok (.getfield 15, 3) := by decide +kernel
theorem dX2_init_146 : decode cX2_init 146 = .ok (.bipush 100, 2) := by decide +kernel
theorem dX2_init_148 : decode cX2_init 148 = .ok (.invokestatic 73, 3) := by decide +kernel
theorem dX2_init_151 : decode cX2_init 151 = .ok (.aload_n 0, 1) := by decide +kernel
theorem dX2_init_152 : decode cX2_init 152 = .ok (.getfield 18, 3) := by decide +kernel
theorem dX2_init_155 : decode cX2_init 155 = .ok (.bipush 10, 2) := by decide +kernel
theorem dX2_init_157 : decode cX2_init 157 = .ok (.invokestatic 73, 3) := by decide +kernel
theorem dX2_init_160 : decode cX2_init 160 = .ok (.return_, 1) := by decide +kernel
theorem dX2_copyFrom_0 : decode cX2_copyFrom 0 = .ok (.aload_n 1, 1) := by decide +kernel
theorem dX2_copyFrom_1 : decode cX2_copyFrom 1 = .ok (.getfield 9, 3) := by decide +kernel
theorem dX2_copyFrom_4 : decode cX2_copyFrom 4 = .ok (.iconst 0, 1) := by decide +kernel
theorem dX2_copyFrom_5 : decode cX2_copyFrom 5 = .ok (.aload_n 0, 1) := by decide +kernel
theorem dX2_copyFrom_6 : decode cX2_copyFrom 6 = .ok (.getfield 9, 3) := by decide +kernel
theorem dX2_copyFrom_9 : decode cX2_copyFrom 9 = .ok (.iconst 0, 1) := by decide +kernel
theorem dX2_copyFrom_10 : decode cX2_copyFrom 10 = .ok (.bipush 10, 2) := by decide +kernel
theorem dX2_copyFrom_12 : decode cX2_copyFrom 12 = .ok (.invokestatic 67, 3) := by decide +kernel
theorem dX2_copyFrom_15 : decode cX2_copyFrom 15 = .ok (.aload_n 1, 1) := by decide +kernel
theorem dX2_copyFrom_16 : decode cX2_copyFrom 16 = .ok (.getfield 15, 3) := by decide +kernel
theorem dX2_copyFrom_19 : decode cX2_copyFrom 19 = .ok (.iconst 0, 1) := by decide +kernel
theorem dX2_copyFrom_20 : decode cX2_copyFrom 20 = .ok (.aload_n 0, 1) := by decide +kernel
theorem dX2_copyFrom_21 : decode cX2_copyFrom 21 = .ok (.getfield 15, 3) := by decide +kernel
theorem dX2_copyFrom_24 : decode cX2_copyFrom 24 = .ok (.iconst 0, 1) := by decide +kernel
theorem dX2_copyFrom_25 : decode cX2_copyFrom 25 = .ok (.bipush 8, 2) := by decide +kernel
theorem dX2_copyFrom_27 : decode cX2_copyFrom 27 = .ok (.invokestatic 67, 3) := by decide +kernel
theorem dX2_copyFrom_30 : decode cX2_copyFrom 30 = .ok (.aload_n 1, 1) := by decide +kernel
theorem dX2_copyFrom_31 : decode cX2_copyFrom 31 = .ok (.getfield 18, 3) := by decide +kernel
theorem dX2_copyFrom_34 : decode cX2_copyFrom 34 = .ok (.iconst 0, 1) := by decide +kernel
theorem dX2_copyFrom_35 : decode cX2_copyFrom 35 = .ok (.aload_n 0, 1) := by decide +kernel
theorem dX2_copyFrom_36 : decode cX2_copyFrom 36 = .ok (.getfield 18, 3) := by decide +kernel
theorem dX2_copyFrom_39 : decode cX2_copyFrom 39 = .ok (.iconst 0, 1) := by decide +kernel
theorem dX2_copyFrom_40 : decode cX2_copyFrom 40 = .ok (.bipush 6, 2) := by decide +kernel
theorem dX2_copyFrom_42 : decode cX2_copyFrom 42 = .ok (.invokestatic 67, 3) := by decide +kernel
theorem dX2_copyFrom_45 : decode cX2_copyFrom 45 = .ok (.aload_n 0, 1) := by decide +kernel
theorem dX2_copyFrom_46 : decode cX2_copyFrom 46 = .ok (.aload_n 1, 1) := by decide +kernel
theorem dX2_copyFrom_47 : decode cX2_copyFrom 47 = .ok (.getfield 21, 3) := by decide +kernel
theorem dX2_copyFrom_50 : decode cX2_copyFrom 50 = .ok (.putfield 21, 3) := by decide +kernel
theorem dX2_copyFrom_53 : decode cX2_copyFrom 53 = .ok (.aload_n 1, 1) := by decide +kernel
theorem dX2_copyFrom_54 : decode cX2_copyFrom 54 = .ok (.getfield 25, 3) := by decide +kernel
theorem dX2_copyFrom_57 : decode cX2_copyFrom 57 = .ok (.iconst 0, 1) := by decide +kernel
theorem dX2_copyFrom_58 : decode cX2_copyFrom 58 = .ok (.aload_n 0, 1) := by decide +kernel
theorem dX2_copyFrom_59 : decode cX2_copyFrom 59 = .ok (.getfield 25, 3) := by decide +kernel
theorem dX2_copyFrom_62 : decode cX2_copyFrom 62 = .ok (.iconst 0, 1) := by decide +kernel
theorem dX2_copyFrom_63 : decode cX2_copyFrom 63 = .ok (.bipush 10, 2) := by decide +kernel
theorem dX2_copyFrom_65 : decode cX2_copyFrom 65 = .ok (.invokestatic 67, 3) := by decide +kernel
theorem dX2_copyFrom_68 : decode cX2_copyFrom 68 = .ok (.aload_n 1, 1) := by decide +kernel
theorem dX2_copyFrom_69 : decode cX2_copyFrom 69 = .ok (.getfield 28, 3) := by decide +kernel
theorem dX2_copyFrom_72 : decode cX2_copyFrom 72 = .ok (.iconst 0, 1) := by decide +kernel
theorem dX2_copyFrom_73 : decode cX2_copyFrom 73 = .ok (.aload_n 0, 1) := by decide +kernel
theorem dX2_copyFrom_74 : decode cX2_copyFrom 74 = .ok (.getfield 28, 3) := by decide +kernel
theorem dX2_copyFrom_77 : decode cX2_copyFrom 77 = .ok (.iconst 0, 1) := by decide +kernel
theorem dX2_copyFrom_78 : decode cX2_copyFrom 78 = .ok (.bipush 10, 2) := by decide +kernel
theorem dX2_copyFrom_80 : decode cX2_copyFrom 80 = .ok (.invokestatic 67, 3) := by decide +kernel
theorem dX2_copyFrom_83 : decode cX2_copyFrom 83 = .ok (.aload_n 1, 1) := by decide +kernel
theorem dX2_copyFrom_84 : decode cX2_copyFrom 84 = .ok (.getfield 31, 3) := by decide +kernel
theorem dX2_copyFrom_87 : decode cX2_copyFrom 87 = .ok (.iconst 0, 1) := by decide +kernel
theorem dX2_copyFrom_88 : decode cX2_copyFrom 88 = .ok (.aload_n 0, 1) := by decide +kernel
theorem dX2_copyFrom_89 : decode cX2_copyFrom 89 = .ok (.getfield 31, 3) := by decide +kernel
theorem dX2_copyFrom_92 : decode cX2_copyFrom 92 = .ok (.iconst 0, 1) := by decide +kernel
theorem dX2_copyFrom_93 : decode cX2_copyFrom 93 = .ok (.bipush 10, 2) := by decide +kernel
theorem dX2_copyFrom_95 : decode cX2_copyFrom 95 = .ok (.invokestatic 67, 3) := by decide +kernel
theorem dX2_copyFrom_98 : decode cX2_copyFrom 98 = .ok (.aload_n 1, 1) := by decide +kernel
theorem dX2_copyFrom_99 : decode cX2_copyFrom 99 = .ok (.getfield 34, 3) := by decide +kernel
theorem dX2_copyFrom_102 : decode cX2_copyFrom 102 = .ok (.iconst 0, 1) := by decide +kernel
theorem dX2_copyFrom_103 : decode cX2_copyFrom 103 = .ok (.aload_n 0, 1) := by decide +kernel
theorem dX2_copyFrom_104 : decode cX2_copyFrom 104 = .ok (.getfield 34, 3) := by decide +kernel
theorem dX2_copyFrom_107 : decode cX2_copyFrom 107 = .ok (.iconst 0, 1) := by decide +kernel
theorem dX2_copyFrom_108 : decode cX2_copyFrom 108 = .ok (.bipush 10, 2) := by decide +kernel
theorem dX2_copyFrom_110 : decode cX2_copyFrom 110 = .ok (.invokestatic 67, 3) := by decide +kernel
theorem dX2_copyFrom_113 : decode cX2_copyFrom 113 = .ok (.aload_n 1, 1) := by decide +kernel
theorem dX2_copyFrom_114 : decode cX2_copyFrom 114 = .ok (.getfield 37, 3) := by decide +kernel
theorem dX2_copyFrom_117 : decode cX2_copyFrom 117 = .ok (.iconst 0, 1) := by decide +kernel
theorem dX2_copyFrom_118 : decode cX2_copyFrom 118 = .ok (.aload_n 0, 1) := by decide +kernel
theorem dX2_copyFrom_119 : decode cX2_copyFrom 119 = .ok (.getfield 37, 3) := by decide +kernel
theorem dX2_copyFrom_122 : decode cX2_copyFrom 122 = .ok (.iconst 0, 1) := by decide +kernel
theorem dX2_copyFrom_123 : decode cX2_copyFrom 123 = .ok (.bipush 10, 2) := by decide +kernel
theorem dX2_copyFrom_125 : decode cX2_copyFrom 125 = .ok (.invokestatic 67, 3) := by decide +kernel
theorem dX2_copyFrom_128 : decode cX2_copyFrom 128 = .ok (.aload_n 1, 1) := by decide +kernel
theorem dX2_copyFrom_129 : decode cX2_copyFrom 129 = .ok (.getfield 40, 3) := by decide +kernel
theorem dX2_copyFrom_132 : decode cX2_copyFrom 132 = .ok (.iconst 0, 1) := by decide +kernel
theorem dX2_copyFrom_133 : decode cX2_copyFrom 133 = .ok (.aload_n 0, 1) := by decide +kernel
theorem dX2_copyFrom_134 : decode cX2_copyFrom 134 = .ok (.getfield 40, 3) := by decide +kernel
theorem dX2_copyFrom_137 : decode cX2_copyFrom 137 = .ok (.iconst 0, 1) := by decide +kernel
theorem dX2_copyFrom_138 : decode cX2_copyFrom 138 = .ok (.bipush 10, 2) := by decide +kernel
theorem dX2_copyFrom_140 : decode cX2_copyFrom 140 = .ok (.invokestatic 67, 3) := by decide +kernel
theorem dX2_copyFrom_143 : decode cX2_copyFrom 143 = .ok (.aload_n 0, 1) := by decide +kernel
theorem dX2_copyFrom_144 : decode cX2_copyFrom 144 = .ok (.aload_n 1, 1) := by decide +kernel
theorem dX2_copyFrom_145 : decode cX2_copyFrom 145 = .ok (.getfield 43, 3) := by decide +kernel
theorem dX2_copyFrom_148 : decode cX2_copyFrom 148 = .ok (.putfield 43, 3) := by decide +kernel
theorem dX2_copyFrom_151 : decode cX2_copyFrom 151 = .ok (.aload_n 1, 1) := by decide +kernel
theorem dX2_copyFrom_152 : decode cX2_copyFrom 152 = .ok (.getfield 46, 3) := by decide +kernel
theorem dX2_copyFrom_155 : decode cX2_copyFrom 155 = .ok (.iconst 0, 1) := by decide +kernel
theorem dX2_copyFrom_156 : decode cX2_copyFrom 156 = .ok (.aload_n 0, 1) := by decide +kernel
theorem dX2_copyFrom_157 : decode cX2_copyFrom 157 = .ok (.getfield 46, 3) := by decide +kernel
theorem dX2_copyFrom_160 : decode cX2_copyFrom 160 = .ok (.iconst 0, 1) := by decide +kernel
theorem dX2_copyFrom_161 : decode cX2_copyFrom 161 = .ok (.bipush 10, 2) := by decide +kernel
theorem dX2_copyFrom_163 : decode cX2_copyFrom 163 = .ok (.invokestatic 67, 3) := by decide +kernel
theorem dX2_copyFrom_166 : decode cX2_copyFrom 166 = .ok (.aload_n 1, 1) := by decide +kernel
theorem dX2_copyFrom_167 : decode cX2_copyFrom 167 = .ok (.getfield 49, 3) := by decide +kernel
theorem dX2_copyFrom_170 : decode cX2_copyFrom 170 = .ok (.iconst 0, 1) := by decide +kernel
theorem dX2_copyFrom_171 : decode cX2_copyFrom 171 = .ok (.aload_n 0, 1) := by decide +kernel
theorem dX2_copyFrom_172 : decode cX2_copyFrom 172 = .ok (.getfield 49, 3) := by decide +kernel
theorem dX2_copyFrom_175 : decode cX2_copyFrom 175 = .ok (.iconst 0, 1) := by decide +kernel
theorem dX2_copyFrom_176 : decode cX2_copyFrom 176 = .ok (.bipush 10, 2) := by decide +kernel
theorem dX2_copyFrom_178 : decode cX2_copyFrom 178 = .ok (.invokestatic 67, 3) := by decide +kernel
theorem dX2_copyFrom_181 : decode cX2_copyFrom 181 = .ok (.aload_n 0, 1) := by decide +kernel
theorem dX2_copyFrom_182 : decode cX2_copyFrom 182 = .ok (.aload_n 1, 1) := by decide +kernel
theorem dX2_copyFrom_183 : decode cX2_copyFrom 183 = .ok (.getfield 52, 3) := by decide +kernel
theorem dX2_copyFrom_186 : decode cX2_copyFrom 186 = .ok (.putfield 52, 3) := by decide +kernel
theorem dX2_copyFrom_189 : decode cX2_copyFrom 189 = .ok (.aload_n 1, 1) := by decide +kernel
theorem dX2_copyFrom_190 : decode cX2_copyFrom 190 = .ok (.getfield 55, 3) := by decide +kernel
theorem dX2_copyFrom_193 : decode cX2_copyFrom 193 = .ok (.iconst 0, 1) := by decide +kernel
theorem dX2_copyFrom_194 : decode cX2_copyFrom 194 = .ok (.aload_n 0, 1) := by decide +kernel
theorem dX2_copyFrom_195 : decode cX2_copyFrom 195 = .ok (.getfield 55, 3) := by decide +kernel
theorem dX2_copyFrom_198 : decode cX2_copyFrom 198 = .ok (.iconst 0, 1) := by decide +kernel
theorem dX2_copyFrom_199 : decode cX2_copyFrom 199 = .ok (.iconst 5, 1) := by decide +kernel
theorem dX2_copyFrom_200 : decode cX2_copyFrom 200 = .ok (.invokestatic 67, 3) := by decide +kernel
theorem dX2_copyFrom_203 : decode cX2_copyFrom 203 = .ok (.aload_n 1, 1) := by decide +kernel
theorem dX2_copyFrom_204 : decode cX2_copyFrom 204 = .ok (.getfield 58, 3) := by decide +kernel
theorem dX2_copyFrom_207 : decode cX2_copyFrom 207 = .ok (.iconst 0, 1) := by decide +kernel
theorem dX2_copyFrom_208 : decode cX2_copyFrom 208 = .ok (.aload_n 0, 1) := by decide +kernel
theorem dX2_copyFrom_209 : decode cX2_copyFrom 209 = .ok (.getfield 58, 3) := by decide +kernel
theorem dX2_copyFrom_212 : decode cX2_copyFrom 212 = .ok (.iconst 0, 1) := by decide +kernel
theorem dX2_copyFrom_213 : decode cX2_copyFrom 213 = .ok (.iconst 5, 1) := by decide +kernel
theorem dX2_copyFrom_214 : decode cX2_copyFrom 214 = .ok (.invokestatic 67, 3) := by decide +kernel
theorem dX2_copyFrom_217 : decode cX2_copyFrom 217 = .ok (.aload_n 1, 1) := by decide +kernel
theorem dX2_copyFrom_218 : decode cX2_copyFrom 218 = .ok (.getfield 61, 3) := by decide +kernel
theorem dX2_copyFrom_221 : decode cX2_copyFrom 221 = .ok (.iconst 0, 1) := by decide +kernel
theorem dX2_copyFrom_222 : decode cX2_copyFrom 222 = .ok (.aload_n 0, 1) := by decide +kernel
theorem dX2_copyFrom_223 : decode cX2_copyFrom 223 = .ok (.getfield 61, 3) := by decide +kernel
theorem dX2_copyFrom_226 : decode cX2_copyFrom 226 = .ok (.iconst 0, 1) := by decide +kernel
theorem dX2_copyFrom_227 : decode cX2_copyFrom 227 = .ok (.iconst 5, 1) := by decide +kernel
theorem dX2_copyFrom_228 : decode cX2_copyFrom 228 = .ok (.invokestatic 67, 3) := by decide +kernel
theorem dX2_copyFrom_231 : decode cX2_copyFrom 231 = .ok (.return_, 1) := by decide +kernel
theorem dX2_wrongOf_0 : decode cX2_wrongOf 0 = .ok (.bipush 8, 2) := by decide +kernel
theorem dX2_wrongOf_2 : decode cX2_wrongOf 2 = .ok (.aload_n 0, 1) := by decide +kernel
theorem dX2_wrongOf_3 : decode cX2_wrongOf 3 = .ok (.getfield 37, 3) := by decide +kernel
theorem dX2_wrongOf_6 : decode cX2_wrongOf 6 = .ok (.iload_n 1, 1) := by decide +kernel
theorem dX2_wrongOf_7 : decode cX2_wrongOf 7 = .ok (.iaload, 1) := by decide +kernel
theorem dX2_wrongOf_8 : decode cX2_wrongOf 8 = .ok (.aload_n 0, 1) := by decide +kernel
theorem dX2_wrongOf_9 : decode cX2_wrongOf 9 = .ok (.getfield 40, 3) := by decide +kernel
theorem dX2_wrongOf_12 : decode cX2_wrongOf 12 = .ok (.iload_n 1, 1) := by decide +kernel
theorem dX2_wrongOf_13 : decode cX2_wrongOf 13 = .ok (.iaload, 1) := by decide +kernel
theorem dX2_wrongOf_14 : decode cX2_wrongOf 14 = .ok (.bipush 10, 2) := by decide +kernel
theorem dX2_wrongOf_16 : decode cX2_wrongOf 16 = .ok (.idiv, 1) := by decide +kernel
theorem dX2_wrongOf_17 : decode cX2_wrongOf 17 = .ok (.iadd, 1) := by decide +kernel
theorem dX2_wrongOf_18 : decode cX2_wrongOf 18 = .ok (.invokestatic 79, 3) := by decide +kernel
theorem dX2_wrongOf_21 : decode cX2_wrongOf 21 = .ok (.ireturn, 1) := by decide +kernel
theorem dX2_costOf_0 : decode cX2_costOf 0 = .ok (.iconst 0, 1) := by decide +kernel
theorem dX2_costOf_1 : decode cX2_costOf 1 = .ok (.istore_n 2, 1) := by decide +kernel
theorem dX2_costOf_2 : decode cX2_costOf 2 = .ok (.iconst 0, 1) := by decide +kernel
theorem dX2_costOf_3 : decode cX2_costOf 3 = .ok (.istore_n 3, 1) := by decide +kernel
theorem dX2_costOf_4 : decode cX2_costOf 4 = .ok (.iload_n 3, 1) := by decide +kernel
theorem dX2_costOf_5 : decode cX2_costOf 5 = .ok (.aload_n 0, 1) := by decide +kernel
theorem dX2_costOf_6 : decode cX2_costOf 6 = .ok (.getfield 52, 3) := by decide +kernel
theorem dX2_costOf_9 : decode cX2_costOf 9 = .ok (.if_icmp .ge 27, 3) := by decide +kernel
theorem dX2_costOf_12 : decode cX2_costOf 12 = .ok (.iload_n 1, 1) := by decide +kernel
theorem dX2_costOf_13 : decode cX2_costOf 13 = .ok (.iload_n 3, 1) := by decide +kernel
theorem dX2_costOf_14 : decode cX2_costOf 14 = .ok (.ishr, 1) := by decide +kernel
theorem dX2_costOf_15 : decode cX2_costOf 15 = .ok (.iconst 1, 1) := by decide +kernel
theorem dX2_costOf_16 : decode cX2_costOf 16 = .ok (.iand, 1) := by decide +kernel
theorem dX2_costOf_17 : decode cX2_costOf 17 = .ok (.iconst 1, 1) := by decide +kernel
theorem dX2_costOf_18 : decode cX2_costOf 18 = .ok (.if_icmp .ne 12, 3) := by decide +kernel
theorem dX2_costOf_21 : decode cX2_costOf 21 = .ok (.iload_n 2, 1) := by decide +kernel
theorem dX2_costOf_22 : decode cX2_costOf 22 = .ok (.aload_n 0, 1) := by decide +kernel
theorem dX2_costOf_23 : decode cX2_costOf 23 = .ok (.getfield 61, 3) := by decide +kernel
theorem dX2_costOf_26 : decode cX2_costOf 26 = .ok (.iload_n 3, 1) := by decide +kernel
theorem dX2_costOf_27 : decode cX2_costOf 27 = .ok (.iaload, 1) := by decide +kernel
theorem dX2_costOf_28 : decode cX2_costOf 28 = .ok (.iadd, 1) := by decide +kernel
theorem dX2_costOf_29 : decode cX2_costOf 29 = .ok (.istore_n 2, 1) := by decide +kernel
theorem dX2_costOf_30 : decode cX2_costOf 30 = .ok (.iinc 3 1, 3) := by decide +kernel
theorem dX2_costOf_33 : decode cX2_costOf 33 = .ok (.goto (-29), 3) := by decide +kernel
theorem dX2_costOf_36 : decode cX2_costOf 36 = .ok (.iload_n 2, 1) := by decide +kernel
theorem dX2_costOf_37 : decode cX2_costOf 37 = .ok (.ireturn, 1) := by decide +kernel
theorem dX2_applyOptions_0 : decode cX2_applyOptions 0 = .ok (.iconst 0, 1) := by decide +kernel
theorem dX2_applyOptions_1 : decode cX2_applyOptions 1 = .ok (.istore_n 3, 1) := by decide +kernel
theorem dX2_applyOptions_2 : decode cX2_applyOptions 2 = .ok (.iload_n 3, 1) := by decide +kernel
theorem dX2_applyOptions_3 : decode cX2_applyOptions 3 = .ok (.aload_n 0, 1) := by decide +kernel
theorem dX2_applyOptions_4 : decode cX2_applyOptions 4 = .ok (.getfield 52, 3) := by decide +kernel
theorem dX2_applyOptions_7 : decode cX2_applyOptions 7 = .ok (.if_icmp .ge 48, 3) := by decide +kernel
theorem dX2_applyOptions_10 : decode cX2_applyOptions 10 = .ok (.aload_n 0, 1) := by decide +kernel
theorem dX2_applyOptions_11 : decode cX2_applyOptions 11 = .ok (.getfield 55, 3) := by decide +kernel
theorem dX2_applyOptions_14 : decode cX2_applyOptions 14 = .ok (.iload_n 3, 1) := by decide +kernel
theorem dX2_applyOptions_15 : decode cX2_applyOptions 15 = .ok (.iaload, 1) := by decide +kernel
theorem dX2_applyOptions_16 : decode cX2_applyOptions 16 = .ok (.istore 4, 2) := by decide +kernel
theorem dX2_applyOptions_18 : decode cX2_applyOptions 18 = .ok (.iload_n 1, 1) := by decide +kernel
theorem dX2_applyOptions_19 : decode cX2_applyOptions 19 = .ok (.iload_n 3, 1) := by decide +kernel
theorem dX2_applyOptions_20 : decode cX2_applyOptions 20 = .ok (.ishr, 1) := by decide +kernel
theorem dX2_applyOptions_21 : decode cX2_applyOptions 21 = .ok (.iconst 1, 1) := by decide +kernel
theorem dX2_applyOptions_22 : decode cX2_applyOptions 22 = .ok (.iand, 1) := by decide +kernel
theorem dX2_applyOptions_23 : decode cX2_applyOptions 23 = .ok (.iconst 1, 1) := by decide +kernel
theorem dX2_applyOptions_24 : decode cX2_applyOptions 24 = .ok (.if_icmp .ne 25, 3) := by decide +kernel
theorem dX2_applyOptions_27 : decode cX2_applyOptions 27 = .ok (.iload 4, 2) := by decide +kernel
theorem dX2_applyOptions_29 : decode cX2_applyOptions 29 = .ok (.ifCond .lt 20, 3) := by decide +kernel
theorem dX2_applyOptions_32 : decode cX2_applyOptions 32 = .ok (.iload 4, 2) := by decide +kernel
theorem dX2_applyOptions_34 : decode cX2_applyOptions 34 = .ok (.aload_n 2, 1) := by decide +kernel
theorem dX2_applyOptions_35 : decode cX2_applyOptions 35 = .ok (.arraylength, 1) := by decide +kernel
theorem dX2_applyOptions_36 : decode cX2_applyOptions 36 = .ok (.if_icmp .ge 13, 3) := by decide +kernel
theorem dX2_applyOptions_39 : decode cX2_applyOptions 39 = .ok (.aload_n 2, 1) := by decide +kernel
theorem dX2_applyOptions_40 : decode cX2_applyOptions 40 = .ok (.iload 4, 2) := by decide +kernel
theorem dX2_applyOptions_42 : decode cX2_applyOptions 42 = .ok (.aload_n 0, 1) := by decide +kernel
theorem dX2_applyOptions_43 : decode cX2_applyOptions 43 = .ok (.getfield 58, 3) := by decide +kernel
theorem dX2_applyOptions_46 : decode cX2_applyOptions 46 = .ok (.iload_n 3, 1) := by decide +kernel
theorem dX2_applyOptions_47 : decode cX2_applyOptions 47 = .ok (.iaload, 1) := by decide +kernel
theorem dX2_applyOptions_48 : decode cX2_applyOptions 48 = .ok (.iastore, 1) := by decide +kernel
theorem dX2_applyOptions_49 : decode cX2_applyOptions 49 = .ok (.iinc 3 1, 3) := by decide +kernel
theorem dX2_applyOptions_52 : decode cX2_applyOptions 52 = .ok (.goto (-50), 3) := by decide +kernel
theorem dX2_applyOptions_55 : decode cX2_applyOptions 55 = .ok (.return_, 1) := by decide +kernel
theorem dX4_init_0 : decode cX4_init 0 = .ok (.aload_n 0, 1) := by decide +kernel
theorem dX4_init_1 : decode cX4_init 1 = .ok (.invokespecial 3, 3) := by decide +kernel
theorem dX4_init_4 : decode cX4_init 4 = .ok (.aload_n 0, 1) := by decide +kernel
theorem dX4_init_5 : decode cX4_init 5 = .ok (.iconst 0, 1) := by decide +kernel
theorem dX4_init_6 : decode cX4_init 6 = .ok (.putfield 9, 3) := by decide +kernel
theorem dX4_init_9 : decode cX4_init 9 = .ok (.aload_n 0, 1) := by decide +kernel
theorem dX4_init_10 : decode cX4_init 10 = .ok (.bipush 14, 2) := by decide +kernel
theorem dX4_init_12 : decode cX4_init 12 = .ok (.newarray .int, 2) := by decide +kernel
theorem dX4_init_14 : decode cX4_init 14 = .ok (.putfield 15, 3) := by decide +kernel
theorem dX4_init_17 : decode cX4_init 17 = .ok (.aload_n 0, 1) := by decide +kernel
theorem dX4_init_18 : decode cX4_init 18 = .ok (.bipush 14, 2) := by decide +kernel
theorem dX4_init_20 : decode cX4_init 20 = .ok (.newarray .int, 2) := by decide +kernel
theorem dX4_init_22 : decode cX4_init 22 = .ok (.putfield 19, 3) := by decide +kernel
theorem dX4_init_25 : decode cX4_init 25 = .ok (.aload_n 0, 1) := by decide +kernel
theorem dX4_init_26 : decode cX4_init 26 = .ok (.bipush 14, 2) := by decide +kernel
theorem dX4_init_28 : decode cX4_init 28 = .ok (.newarray .int, 2) := by decide +kernel
theorem dX4_init_30 : decode cX4_init 30 = .ok (.putfield 22, 3) := by decide +kernel
theorem dX4_init_33 : decode cX4_init 33 = .ok (.aload_n 0, 1) := by decide +kernel
theorem dX4_init_34 : decode cX4_init 34 = .ok (.bipush 14, 2) := by decide +kernel
theorem dX4_init_36 : decode cX4_init 36 = .ok (.newarray .int, 2) := by decide +kernel
theorem dX4_init_38 : decode cX4_init 38 = .ok (.putfield 25, 3) := by decide +kernel
theorem dX4_init_41 : decode cX4_init 41 = .ok (.aload_n 0, 1) := by decide +kernel
theorem dX4_init_42 : decode cX4_init 42 = .ok (.bipush 14, 2) := by decide +kernel
theorem dX4_init_44 : decode cX4_init 44 = .ok (.newarray .int, 2) := by decide +kernel
theorem dX4_init_46 : decode cX4_init 46 = .ok (.putfield 28, 3) := by decide +kernel
theorem dX4_init_49 : decode cX4_init 49 = .ok (.aload_n 0, 1) := by decide +kernel
theorem dX4_init_50 : decode cX4_init 50 = .ok (.bipush 14, 2) := by decide +kernel
theorem dX4_init_52 : decode cX4_init 52 = .ok (.newarray .int, 2) := by decide +kernel
theorem dX4_init_54 : decode cX4_init 54 = .ok (.putfield 31, 3) := by decide +kernel
theorem dX4_init_57 : decode cX4_init 57 = .ok (.aload_n 0, 1) := by decide +kernel
theorem dX4_init_58 : decode cX4_init 58 = .ok (.sipush 300, 3) := by decide +kernel
theorem dX4_init_61 : decode cX4_init 61 = .ok (.newarray .int, 2) := by decide +kernel
theorem dX4_init_63 : decode cX4_init 63 = .ok (.putfield 34, 3) := by decide +kernel
theorem dX4_init_66 : decode cX4_init 66 = .ok (.aload_n 0, 1) := by decide +kernel
theorem dX4_init_67 : decode cX4_init 67 = .ok (.iconst 0, 1) := by decide +kernel
theorem dX4_init_68 : decode cX4_init 68 = .ok (.putfield 37, 3) := by decide +kernel
theorem dX4_init_71 : decode cX4_init 71 = .ok (.return_, 1) := by decide +kernel
theorem dX4_copyFrom_0 : decode cX4_copyFrom 0 = .ok (.aload_n 0, 1) := by decide +kernel
theorem dX4_copyFrom_1 : decode cX4_copyFrom 1 = .ok (.aload_n 1, 1) := by decide +kernel
theorem dX4_copyFrom_2 : decode cX4_copyFrom 2 = .ok (.getfield 9, 3) := by decide +kernel
theorem dX4_copyFrom_5 : decode cX4_copyFrom 5 = .ok (.putfield 9, 3) := by decide +kernel
theorem dX4_copyFrom_8 : decode cX4_copyFrom 8 = .ok (.aload_n 1, 1) := by decide +kernel
theorem dX4_copyFrom_9 : decode cX4_copyFrom 9 = .ok (.getfield 15, 3) := by decide +kernel
theorem dX4_copyFrom_12 : decode cX4_copyFrom 12 = .ok (.iconst 0, 1) := by decide +kernel
theorem dX4_copyFrom_13 : decode cX4_copyFrom 13 = .ok (.aload_n 0, 1) := by decide +kernel
theorem dX4_copyFrom_14 : decode cX4_copyFrom 14 = .ok (.getfield 15, 3) := by decide +kernel
theorem dX4_copyFrom_17 : decode cX4_copyFrom 17 = .ok (.iconst 0, 1) := by decide +kernel
theorem dX4_copyFrom_18 : decode cX4_copyFrom 18 = .ok (.bipush 14, 2) := by decide +kernel
theorem dX4_copyFrom_20 : decode cX4_copyFrom 20 = .ok (.invokestatic 40, 3) := by decide +kernel
theorem dX4_copyFrom_23 : decode cX4_copyFrom 23 = .ok (.aload_n 1, 1) := by decide +kernel
theorem dX4_copyFrom_24 : decode cX4_copyFrom 24 = .ok (.getfield 19, 3) := by decide +kernel
theorem dX4_copyFrom_27 : decode cX4_copyFrom 27 = .ok (.iconst 0, 1) := by decide +kernel
theorem dX4_copyFrom_28 : decode cX4_copyFrom 28 = .ok (.aload_n 0, 1) := by decide +kernel
theorem dX4_copyFrom_29 : decode cX4_copyFrom 29 = .ok (.getfield 19, 3) := by decide +kernel
theorem dX4_copyFrom_32 : decode cX4_copyFrom 32 = .ok (.iconst 0, 1) := by decide +kernel
theorem dX4_copyFrom_33 : decode cX4_copyFrom 33 = .ok (.bipush 14, 2) := by decide +kernel
theorem dX4_copyFrom_35 : decode cX4_copyFrom 35 = .ok (.invokestatic 40, 3) := by decide +kernel
theorem dX4_copyFrom_38 : decode cX4_copyFrom 38 = .ok (.aload_n 1, 1) := by decide +kernel
theorem dX4_copyFrom_39 : decode cX4_copyFrom 39 = .ok (.getfield 22, 3) := by decide +kernel
theorem dX4_copyFrom_42 : decode cX4_copyFrom 42 = .ok (.iconst 0, 1) := by decide +kernel
theorem dX4_copyFrom_43 : decode cX4_copyFrom 43 = .ok (.aload_n 0, 1) := by decide +kernel
theorem dX4_copyFrom_44 : decode cX4_copyFrom 44 = .ok (.getfield 22, 3) := by decide +kernel
theorem dX4_copyFrom_47 : decode cX4_copyFrom 47 = .ok (.iconst 0, 1) := by decide +kernel
theorem dX4_copyFrom_48 : decode cX4_copyFrom 48 = .ok (.bipush 14, 2) := by decide +kernel
theorem dX4_copyFrom_50 : decode cX4_copyFrom 50 = .ok (.invokestatic 40, 3) := by decide +kernel
theorem dX4_copyFrom_53 : decode cX4_copyFrom 53 = .ok (.aload_n 1, 1) := by decide +kernel
theorem dX4_copyFrom_54 : decode cX4_copyFrom 54 = .ok (.getfield 25, 3) := by decide +kernel
theorem dX4_copyFrom_57 : decode cX4_copyFrom 57 = .ok (.iconst 0, 1) := by decide +kernel
theorem dX4_copyFrom_58 : decode cX4_copyFrom 58 = .ok (.aload_n 0, 1) := by decide +kernel
theorem dX4_copyFrom_59 : decode cX4_copyFrom 59 = .ok (.getfield 25, 3) := by decide +kernel
theorem dX4_copyFrom_62 : decode cX4_copyFrom 62 = .ok (.iconst 0, 1) := by decide +kernel
theorem dX4_copyFrom_63 : decode cX4_copyFrom 63 = .ok (.bipush 14, 2) := by decide +kernel
theorem dX4_copyFrom_65 : decode cX4_copyFrom 65 = .ok (.invokestatic 40, 3) := by decide +kernel
theorem dX4_copyFrom_68 : decode cX4_copyFrom 68 = .ok (.aload_n 1, 1) := by decide +kernel
theorem dX4_copyFrom_69 : decode cX4_copyFrom 69 = .ok (.getfield 28, 3) := by decide +kernel
theorem dX4_copyFrom_72 : decode cX4_copyFrom 72 = .ok (.iconst 0, 1) := by decide +kernel
theorem dX4_copyFrom_73 : decode cX4_copyFrom 73 = .ok (.aload_n 0, 1) := by decide +kernel
theorem dX4_copyFrom_74 : decode cX4_copyFrom 74 = .ok (.getfield 28, 3) := by decide +kernel
theorem dX4_copyFrom_77 : decode cX4_copyFrom 77 = .ok (.iconst 0, 1) := by decide +kernel
theorem dX4_copyFrom_78 : decode cX4_copyFrom 78 = .ok (.bipush 14, 2) := by decide +kernel
theorem dX4_copyFrom_80 : decode cX4_copyFrom 80 = .ok (.invokestatic 40, 3) := by decide +kernel
theorem dX4_copyFrom_83 : decode cX4_copyFrom 83 = .ok (.aload_n 1, 1) := by decide +kernel
theorem dX4_copyFrom_84 : decode cX4_copyFrom 84 = .ok (.getfield 31, 3) := by decide +kernel
theorem dX4_copyFrom_87 : decode cX4_copyFrom 87 = .ok (.iconst 0, 1) := by decide +kernel
theorem dX4_copyFrom_88 : decode cX4_copyFrom 88 = .ok (.aload_n 0, 1) := by decide +kernel
theorem dX4_copyFrom_89 : decode cX4_copyFrom 89 = .ok (.getfield 31, 3) := by decide +kernel
theorem dX4_copyFrom_92 : decode cX4_copyFrom 92 = .ok (.iconst 0, 1) := by decide +kernel
theorem dX4_copyFrom_93 : decode cX4_copyFrom 93 = .ok (.bipush 14, 2) := by decide +kernel
theorem dX4_copyFrom_95 : decode cX4_copyFrom 95 = .ok (.invokestatic 40, 3) := by decide +kernel
theorem dX4_copyFrom_98 : decode cX4_copyFrom 98 = .ok (.aload_n 1, 1) := by decide +kernel
theorem dX4_copyFrom_99 : decode cX4_copyFrom 99 = .ok (.getfield 34, 3) := by decide +kernel
theorem dX4_copyFrom_102 : decode cX4_copyFrom 102 = .ok (.iconst 0, 1) := by decide +kernel
theorem dX4_copyFrom_103 : decode cX4_copyFrom 103 = .ok (.aload_n 0, 1) := by decide +kernel
theorem dX4_copyFrom_104 : decode cX4_copyFrom 104 = .ok (.getfield 34, 3) := by decide +kernel
theorem dX4_copyFrom_107 : decode cX4_copyFrom 107 = .ok (.iconst 0, 1) := by decide +kernel
theorem dX4_copyFrom_108 : decode cX4_copyFrom 108 = .ok (.sipush 300, 3) := by decide +kernel
theorem dX4_copyFrom_111 : decode cX4_copyFrom 111 = .ok (.invokestatic 40, 3) := by decide +kernel
theorem dX4_copyFrom_114 : decode cX4_copyFrom 114 = .ok (.aload_n 0, 1) := by decide +kernel
theorem dX4_copyFrom_115 : decode cX4_copyFrom 115 = .ok (.aload_n 1, 1) := by decide +kernel
theorem dX4_copyFrom_116 : decode cX4_copyFrom 116 = .ok (.getfield 37, 3) := by decide +kernel
theorem dX4_copyFrom_119 : decode cX4_copyFrom 119 = .ok (.putfield 37, 3) := by decide +kernel
theorem dX4_copyFrom_122 : decode cX4_copyFrom 122 = .ok (.return_, 1) := by decide +kernel
theorem dJ9_max_7cf53_0 : decode cJ9_max_7cf53 0 = .ok (.iload_n 0, 1) := by decide +kernel
theorem dJ9_max_7cf53_1 : decode cJ9_max_7cf53 1 = .ok (.iload_n 1, 1) := by decide +kernel
theorem dJ9_max_7cf53_2 : decode cJ9_max_7cf53 2 = .ok (.if_icmp .lt 7, 3) := by decide +kernel
theorem dJ9_max_7cf53_5 : decode cJ9_max_7cf53 5 = .ok (.iload_n 0, 1) := by decide +kernel
theorem dJ9_max_7cf53_6 : decode cJ9_max_7cf53 6 = .ok (.goto 4, 3) := by decide +kernel
theorem dJ9_max_7cf53_9 : decode cJ9_max_7cf53 9 = .ok (.iload_n 1, 1) := by decide +kernel
theorem dJ9_max_7cf53_10 : decode cJ9_max_7cf53 10 = .ok (.ireturn, 1) := by decide +kernel
theorem dJ9_max_f86c9_0 : decode cJ9_max_f86c9 0 = .ok (.lload_n 0, 1) := by decide +kernel
theorem dJ9_max_f86c9_1 : decode cJ9_max_f86c9 1 = .ok (.lload_n 2, 1) := by decide +kernel
theorem dJ9_max_f86c9_2 : decode cJ9_max_f86c9 2 = .ok (.lcmp, 1) := by decide +kernel
theorem dJ9_max_f86c9_3 : decode cJ9_max_f86c9 3 = .ok (.ifCond .lt 7, 3) := by decide +kernel
theorem dJ9_max_f86c9_6 : decode cJ9_max_f86c9 6 = .ok (.lload_n 0, 1) := by decide +kernel
theorem dJ9_max_f86c9_7 : decode cJ9_max_f86c9 7 = .ok (.goto 4, 3) := by decide +kernel
theorem dJ9_max_f86c9_10 : decode cJ9_max_f86c9 10 = .ok (.lload_n 2, 1) := by decide +kernel
theorem dJ9_max_f86c9_11 : decode cJ9_max_f86c9 11 = .ok (.lreturn, 1) := by decide +kernel
theorem dJ9_min_7cf53_0 : decode cJ9_min_7cf53 0 = .ok (.iload_n 0, 1) := by decide +kernel
theorem dJ9_min_7cf53_1 : decode cJ9_min_7cf53 1 = .ok (.iload_n 1, 1) := by decide +kernel
theorem dJ9_min_7cf53_2 : decode cJ9_min_7cf53 2 = .ok (.if_icmp .gt 7, 3) := by decide +kernel
theorem dJ9_min_7cf53_5 : decode cJ9_min_7cf53 5 = .ok (.iload_n 0, 1) := by decide +kernel
theorem dJ9_min_7cf53_6 : decode cJ9_min_7cf53 6 = .ok (.goto 4, 3) := by decide +kernel
theorem dJ9_min_7cf53_9 : decode cJ9_min_7cf53 9 = .ok (.iload_n 1, 1) := by decide +kernel
theorem dJ9_min_7cf53_10 : decode cJ9_min_7cf53 10 = .ok (.ireturn, 1) := by decide +kernel
theorem dJ0_length_8abf5_0 : decode cJ0_length_8abf5 0 = .ok (.aload_n 0, 1) := by decide +kernel
theorem dJ0_length_8abf5_1 : decode cJ0_length_8abf5 1 = .ok (.getfield 9, 3) := by decide +kernel
theorem dJ0_length_8abf5_4 : decode cJ0_length_8abf5 4 = .ok (.arraylength, 1) := by decide +kernel
theorem dJ0_length_8abf5_5 : decode cJ0_length_8abf5 5 = .ok (.aload_n 0, 1) := by decide +kernel
theorem dJ0_length_8abf5_6 : decode cJ0_length_8abf5 6 = .ok (.invokevirtual 335, 3) := by decide +kernel
theorem dJ0_length_8abf5_9 : decode cJ0_length_8abf5 9 = .ok (.ishr, 1) := by decide +kernel
theorem dJ0_length_8abf5_10 : decode cJ0_length_8abf5 10 = .ok (.ireturn, 1) := by decide +kernel
theorem dJ0_charAt_5068e_0 : decode cJ0_charAt_5068e 0 = .ok (.aload_n 0, 1) := by decide +kernel
theorem dJ0_charAt_5068e_1 : decode cJ0_charAt_5068e 1 = .ok (.invokevirtual 492, 3) := by decide +kernel
theorem dJ0_charAt_5068e_4 : decode cJ0_charAt_5068e 4 = .ok (.ifCond .eq 12, 3) := by decide +kernel
theorem dJ0_charAt_5068e_7 : decode cJ0_charAt_5068e 7 = .ok (.aload_n 0, 1) := by decide +kernel
theorem dJ0_charAt_5068e_8 : decode cJ0_charAt_5068e 8 = .ok (.getfield 9, 3) := by decide +kernel
theorem dJ0_charAt_5068e_11 : decode cJ0_charAt_5068e 11 = .ok (.iload_n 1, 1) := by decide +kernel
theorem dJ0_charAt_5068e_12 : decode cJ0_charAt_5068e 12 = .ok (.invokestatic 495, 3) := by decide +kernel
theorem dJ0_charAt_5068e_15 : decode cJ0_charAt_5068e 15 = .ok (.ireturn, 1) := by decide +kernel
theorem dJ0_charAt_5068e_16 : decode cJ0_charAt_5068e 16 = .ok (.aload_n 0, 1) := by decide +kernel
theorem dJ0_charAt_5068e_17 : decode cJ0_charAt_5068e 17 = .ok (.getfield 9, 3) := by decide +kernel
theorem dJ0_charAt_5068e_20 : decode cJ0_charAt_5068e 20 = .ok (.iload_n 1, 1) := by decide +kernel
theorem dJ0_charAt_5068e_21 : decode cJ0_charAt_5068e 21 = .ok (.invokestatic 498, 3) := by decide +kernel
theorem dJ0_charAt_5068e_24 : decode cJ0_charAt_5068e 24 = .ok (.ireturn, 1) := by decide +kernel
theorem dJ0_coder_7d493_0 : decode cJ0_coder_7d493 0 = .ok (.getstatic 38, 3) := by decide +kernel
theorem dJ0_coder_7d493_3 : decode cJ0_coder_7d493 3 = .ok (.ifCond .eq 10, 3) := by decide +kernel
theorem dJ0_coder_7d493_6 : decode cJ0_coder_7d493 6 = .ok (.aload_n 0, 1) := by decide +kernel
theorem dJ0_coder_7d493_7 : decode cJ0_coder_7d493 7 = .ok (.getfield 15, 3) := by decide +kernel
theorem dJ0_coder_7d493_10 : decode cJ0_coder_7d493 10 = .ok (.goto 4, 3) := by decide +kernel
theorem dJ0_coder_7d493_13 : decode cJ0_coder_7d493 13 = .ok (.iconst 1, 1) := by decide +kernel
theorem dJ0_coder_7d493_14 : decode cJ0_coder_7d493 14 = .ok (.ireturn, 1) := by decide +kernel
theorem dJ0_isLatin1_aae02_0 : decode cJ0_isLatin1_aae02 0 = .ok (.getstatic 38, 3) := by decide +kernel
theorem dJ0_isLatin1_aae02_3 : decode cJ0_isLatin1_aae02 3 = .ok (.ifCond .eq 14, 3) := by decide +kernel
theorem dJ0_isLatin1_aae02_6 : decode cJ0_isLatin1_aae02 6 = .ok (.aload_n 0, 1) := by decide +kernel
theorem dJ0_isLatin1_aae02_7 : decode cJ0_isLatin1_aae02 7 = .ok (.getfield 15, 3) := by decide +kernel
theorem dJ0_isLatin1_aae02_10 : decode cJ0_isLatin1_aae02 10 = .ok (.ifCond .ne 7, 3) := by decide +kernel
theorem dJ0_isLatin1_aae02_13 : decode cJ0_isLatin1_aae02 13 = .ok (.iconst 1, 1) := by decide +kernel
theorem dJ0_isLatin1_aae02_14 : decode cJ0_isLatin1_aae02 14 = .ok (.goto 4, 3) := by decide +kernel
theorem dJ0_isLatin1_aae02_17 : decode cJ0_isLatin1_aae02 17 = .ok (.iconst 0, 1) := by decide +kernel
theorem dJ0_isLatin1_aae02_18 : decode cJ0_isLatin1_aae02 18 = .ok (.ireturn, 1) := by decide +kernel
theorem dJ0_checkIndex_df160_0 : decode cJ0_checkIndex_df160 0 = .ok (.iload_n 0, 1) := by decide +kernel
theorem dJ0_checkIndex_df160_1 : decode cJ0_checkIndex_df160 1 = .ok (.iload_n 1, 1) := by decide +kernel
theorem dJ0_checkIndex_df160_2 : decode cJ0_checkIndex_df160 2 = .ok (.getstatic 1053, 3) := by decide +kernel
theorem dJ0_checkIndex_df160_5 : decode cJ0_checkIndex_df160 5 = .ok (.invokestatic 1059, 3) := by decide +kernel
theorem dJ0_checkIndex_df160_8 : decode cJ0_checkIndex_df160 8 = .ok (.pop, 1) := by decide +kernel
theorem dJ0_checkIndex_df160_9 : decode cJ0_checkIndex_df160 9 = .ok (.return_, 1) := by decide +kernel
theorem dJ1_charAt_3b067_0 : decode cJ1_charAt_3b067 0 = .ok (.iload_n 1, 1) := by decide +kernel
theorem dJ1_charAt_3b067_1 : decode cJ1_charAt_3b067 1 = .ok (.aload_n 0, 1) := by decide +kernel
theorem dJ1_charAt_3b067_2 : decode cJ1_charAt_3b067 2 = .ok (.arraylength, 1) := by decide +kernel
theorem dJ1_charAt_3b067_3 : decode cJ1_charAt_3b067 3 = .ok (.invokestatic 9, 3) := by decide +kernel
theorem dJ1_charAt_3b067_6 : decode cJ1_charAt_3b067 6 = .ok (.aload_n 0, 1) := by decide +kernel
theorem dJ1_charAt_3b067_7 : decode cJ1_charAt_3b067 7 = .ok (.iload_n 1, 1) := by decide +kernel
theorem dJ1_charAt_3b067_8 : decode cJ1_charAt_3b067 8 = .ok (.baload, 1) := by decide +kernel
theorem dJ1_charAt_3b067_9 : decode cJ1_charAt_3b067 9 = .ok (.sipush 255, 3) := by decide +kernel
theorem dJ1_charAt_3b067_12 : decode cJ1_charAt_3b067 12 = .ok (.iand, 1) := by decide +kernel
theorem dJ1_charAt_3b067_13 : decode cJ1_charAt_3b067 13 = .ok (.i2c, 1) := by decide +kernel
theorem dJ1_charAt_3b067_14 : decode cJ1_charAt_3b067 14 = .ok (.ireturn, 1) := by decide +kernel
theorem dJ2_getChar_3b067_0 : decode cJ2_getChar_3b067 0 = .ok (.getstatic 44, 3) := by decide +kernel
theorem dJ2_getChar_3b067_3 : decode cJ2_getChar_3b067 3 = .ok (.ifCond .ne 25, 3) := by decide +kernel
theorem dJ2_getChar_3b067_6 : decode cJ2_getChar_3b067 6 = .ok (.iload_n 1, 1) := by decide +kernel
theorem dJ2_getChar_3b067_7 : decode cJ2_getChar_3b067 7 = .ok (.ifCond .lt 11, 3) := by decide +kernel
theorem dJ2_getChar_3b067_10 : decode cJ2_getChar_3b067 10 = .ok (.iload_n 1, 1) := by decide +kernel
theorem dJ2_getChar_3b067_11 : decode cJ2_getChar_3b067 11 = .ok (.aload_n 0, 1) := by decide +kernel
theorem dJ2_getChar_3b067_12 : decode cJ2_getChar_3b067 12 = .ok (.invokestatic 48, 3) := by decide +kernel
theorem dJ2_getChar_3b067_15 : decode cJ2_getChar_3b067 15 = .ok (.if_icmp .lt 13, 3) := by decide +kernel
theorem dJ2_getChar_3b067_18 : decode cJ2_getChar_3b067 18 = .ok (.new 52, 3) := by decide +kernel
theorem dJ2_getChar_3b067_21 : decode cJ2_getChar_3b067 21 = .ok (.dup, 1) := by decide +kernel
theorem dJ2_getChar_3b067_22 : decode cJ2_getChar_3b067 22 = .ok (.ldc 54, 2) := by decide +kernel
theorem dJ2_getChar_3b067_24 : decode cJ2_getChar_3b067 24 = .ok (.invokespecial 56, 3) := by decide +kernel
theorem dJ2_getChar_3b067_27 : decode cJ2_getChar_3b067 27 = .ok (.athrow, 1) := by decide +kernel
theorem dJ2_getChar_3b067_28 : decode cJ2_getChar_3b067 28 = .ok (.iload_n 1, 1) := by decide +kernel
theorem dJ2_getChar_3b067_29 : decode cJ2_getChar_3b067 29 = .ok (.iconst 1, 1) := by decide +kernel
theorem dJ2_getChar_3b067_30 : decode cJ2_getChar_3b067 30 = .ok (.ishl, 1) := by decide +kernel
theorem dJ2_getChar_3b067_31 : decode cJ2_getChar_3b067 31 = .ok (.istore_n 1, 1) := by decide +kernel
theorem dJ2_getChar_3b067_32 : decode cJ2_getChar_3b067 32 = .ok (.aload_n 0, 1) := by decide +kernel
theorem dJ2_getChar_3b067_33 : decode cJ2_getChar_3b067 33 = .ok (.iload_n 1, 1) := by decide +kernel
theorem dJ2_getChar_3b067_34 : decode cJ2_getChar_3b067 34 = .ok (.iinc 1 1, 3) := by decide +kernel
theorem dJ2_getChar_3b067_37 : decode cJ2_getChar_3b067 37 = .ok (.baload, 1) := by decide +kernel
theorem dJ2_getChar_3b067_38 : decode cJ2_getChar_3b067 38 = .ok (.sipush 255, 3) := by decide +kernel
theorem dJ2_getChar_3b067_41 : decode cJ2_getChar_3b067 41 = .ok (.iand, 1) := by decide +kernel
theorem dJ2_getChar_3b067_42 : decode cJ2_getChar_3b067 42 = .ok (.getstatic 59, 3) := by decide +kernel
theorem dJ2_getChar_3b067_45 : decode cJ2_getChar_3b067 45 = .ok (.ishl, 1) := by decide +kernel
theorem dJ2_getChar_3b067_46 : decode cJ2_getChar_3b067 46 = .ok (.aload_n 0, 1) := by decide +kernel
theorem dJ2_getChar_3b067_47 : decode cJ2_getChar_3b067 47 = .ok (.iload_n 1, 1) := by decide +kernel
theorem dJ2_getChar_3b067_48 : decode cJ2_getChar_3b067 48 = .ok (.baload, 1) := by decide +kernel
theorem dJ2_getChar_3b067_49 : decode cJ2_getChar_3b067 49 = .ok (.sipush 255, 3) := by decide +kernel
theorem dJ2_getChar_3b067_52 : decode cJ2_getChar_3b067 52 = .ok (.iand, 1) := by decide +kernel
theorem dJ2_getChar_3b067_53 : decode cJ2_getChar_3b067 53 = .ok (.getstatic 63, 3) := by decide +kernel
theorem dJ2_getChar_3b067_56 : decode cJ2_getChar_3b067 56 = .ok (.ishl, 1) := by decide +kernel
theorem dJ2_getChar_3b067_57 : decode cJ2_getChar_3b067 57 = .ok (.ior, 1) := by decide +kernel
theorem dJ2_getChar_3b067_58 : decode cJ2_getChar_3b067 58 = .ok (.i2c, 1) := by decide +kernel
theorem dJ2_getChar_3b067_59 : decode cJ2_getChar_3b067 59 = .ok (.ireturn, 1) := by decide +kernel
theorem dJ2_length_9d52b_0 : decode cJ2_length_9d52b 0 = .ok (.aload_n 0, 1) := by decide +kernel
theorem dJ2_length_9d52b_1 : decode cJ2_length_9d52b 1 = .ok (.arraylength, 1) := by decide +kernel
theorem dJ2_length_9d52b_2 : decode cJ2_length_9d52b 2 = .ok (.iconst 1, 1) := by decide +kernel
theorem dJ2_length_9d52b_3 : decode cJ2_length_9d52b 3 = .ok (.ishr, 1) := by decide +kernel
theorem dJ2_length_9d52b_4 : decode cJ2_length_9d52b 4 = .ok (.ireturn, 1) := by decide +kernel
theorem dJ2_charAt_3b067_0 : decode cJ2_charAt_3b067 0 = .ok (.iload_n 1, 1) := by decide +kernel
theorem dJ2_charAt_3b067_1 : decode cJ2_charAt_3b067 1 = .ok (.aload_n 0, 1) := by decide +kernel
theorem dJ2_charAt_3b067_2 : decode cJ2_charAt_3b067 2 = .ok (.invokestatic 67, 3) := by decide +kernel
theorem dJ2_charAt_3b067_5 : decode cJ2_charAt_3b067 5 = .ok (.aload_n 0, 1) := by decide +kernel
theorem dJ2_charAt_3b067_6 : decode cJ2_charAt_3b067 6 = .ok (.iload_n 1, 1) := by decide +kernel
theorem dJ2_charAt_3b067_7 : decode cJ2_charAt_3b067 7 = .ok (.invokestatic 71, 3) := by decide +kernel
theorem dJ2_charAt_3b067_10 : decode cJ2_charAt_3b067 10 = .ok (.ireturn, 1) := by decide +kernel
theorem dJ2_checkIndex_2214a_0 : decode cJ2_checkIndex_2214a 0 = .ok (.iload_n 0, 1) := by decide +kernel
theorem dJ2_checkIndex_2214a_1 : decode cJ2_checkIndex_2214a 1 = .ok (.aload_n 1, 1) := by decide +kernel
theorem dJ2_checkIndex_2214a_2 : decode cJ2_checkIndex_2214a 2 = .ok (.invokestatic 48, 3) := by decide +kernel
theorem dJ2_checkIndex_2214a_5 : decode cJ2_checkIndex_2214a 5 = .ok (.invokestatic 414, 3) := by decide +kernel
theorem dJ2_checkIndex_2214a_8 : decode cJ2_checkIndex_2214a 8 = .ok (.return_, 1) := by decide +kernel
theorem dJ7_fill_53178_0 : decode cJ7_fill_53178 0 = .ok (.iconst 0, 1) := by decide +kernel
theorem dJ7_fill_53178_1 : decode cJ7_fill_53178 1 = .ok (.istore_n 2, 1) := by decide +kernel
theorem dJ7_fill_53178_2 : decode cJ7_fill_53178 2 = .ok (.aload_n 0, 1) := by decide +kernel
theorem dJ7_fill_53178_3 : decode cJ7_fill_53178 3 = .ok (.arraylength, 1) := by decide +kernel
theorem dJ7_fill_53178_4 : decode cJ7_fill_53178 4 = .ok (.istore_n 3, 1) := by decide +kernel
theorem dJ7_fill_53178_5 : decode cJ7_fill_53178 5 = .ok (.iload_n 2, 1) := by decide +kernel
theorem dJ7_fill_53178_6 : decode cJ7_fill_53178 6 = .ok (.iload_n 3, 1) := by decide +kernel
theorem dJ7_fill_53178_7 : decode cJ7_fill_53178 7 = .ok (.if_icmp .ge 13, 3) := by decide +kernel
theorem dJ7_fill_53178_10 : decode cJ7_fill_53178 10 = .ok (.aload_n 0, 1) := by decide +kernel
theorem dJ7_fill_53178_11 : decode cJ7_fill_53178 11 = .ok (.iload_n 2, 1) := by decide +kernel
theorem dJ7_fill_53178_12 : decode cJ7_fill_53178 12 = .ok (.iload_n 1, 1) := by decide +kernel
theorem dJ7_fill_53178_13 : decode cJ7_fill_53178 13 = .ok (.iastore, 1) := by decide +kernel
theorem dJ7_fill_53178_14 : decode cJ7_fill_53178 14 = .ok (.iinc 2 1, 3) := by decide +kernel
theorem dJ7_fill_53178_17 : decode cJ7_fill_53178 17 = .ok (.goto (-12), 3) := by decide +kernel
theorem dJ7_fill_53178_20 : decode cJ7_fill_53178 20 = .ok (.return_, 1) := by decide +kernel
theorem dJ3_checkIndex_8e157_0 : decode cJ3_checkIndex_8e157 0 = .ok (.iload_n 0, 1) := by decide +kernel
theorem dJ3_checkIndex_8e157_1 : decode cJ3_checkIndex_8e157 1 = .ok (.ifCond .lt 8, 3) := by decide +kernel
theorem dJ3_checkIndex_8e157_4 : decode cJ3_checkIndex_8e157 4 = .ok (.iload_n 0, 1) := by decide +kernel
theorem dJ3_checkIndex_8e157_5 : decode cJ3_checkIndex_8e157 5 = .ok (.iload_n 1, 1) := by decide +kernel
theorem dJ3_checkIndex_8e157_6 : decode cJ3_checkIndex_8e157 6 = .ok (.if_icmp .lt 10, 3) := by decide +kernel
theorem dJ3_checkIndex_8e157_9 : decode cJ3_checkIndex_8e157 9 = .ok (.aload_n 2, 1) := by decide +kernel
theorem dJ3_checkIndex_8e157_10 : decode cJ3_checkIndex_8e157 10 = .ok (.iload_n 0, 1) := by decide +kernel
theorem dJ3_checkIndex_8e157_11 : decode cJ3_checkIndex_8e157 11 = .ok (.iload_n 1, 1) := by decide +kernel
theorem dJ3_checkIndex_8e157_12 : decode cJ3_checkIndex_8e157 12 = .ok (.invokestatic 95, 3) := by decide +kernel
theorem dJ3_checkIndex_8e157_15 : decode cJ3_checkIndex_8e157 15 = .ok (.athrow, 1) := by decide +kernel
theorem dJ3_checkIndex_8e157_16 : decode cJ3_checkIndex_8e157 16 = .ok (.iload_n 0, 1) := by decide +kernel
theorem dJ3_checkIndex_8e157_17 : decode cJ3_checkIndex_8e157 17 = .ok (.ireturn, 1) := by decide +kernel
