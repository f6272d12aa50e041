theorem dX3_init_0 : decode cX3_init 0 = .ok (.aload_n 0, 1) := by decide +kernel
theorem dX3_init_1 : decode cX3_init 1 = .ok (.invokespecial 3, 3) := by decide +kernel
theorem dX3_init_4 : decode cX3_init 4 = .ok (.aload_n 0, 1) := by decide +kernel
theorem dX3_init_5 : decode cX3_init 5 = .ok (.new 9, 3) := by decide +kernel
theorem dX3_init_8 : decode cX3_init 8 = .ok (.dup, 1) := by decide +kernel
theorem dX3_init_9 : decode cX3_init 9 = .ok (.invokespecial 11, 3) := by decide +kernel
theorem dX3_init_12 : decode cX3_init 12 = .ok (.putfield 12, 3) := by decide +kernel
theorem dX3_init_15 : decode cX3_init 15 = .ok (.aload_n 0, 1) := by decide +kernel
theorem dX3_init_16 : decode cX3_init 16 = .ok (.iconst (-1), 1) := by decide +kernel
theorem dX3_init_17 : decode cX3_init 17 = .ok (.putfield 18, 3) := by decide +kernel
theorem dX3_init_20 : decode cX3_init 20 = .ok (.aload_n 0, 1) := by decide +kernel
theorem dX3_init_21 : decode cX3_init 21 = .ok (.iconst 0, 1) := by decide +kernel
theorem dX3_init_22 : decode cX3_init 22 = .ok (.putfield 22, 3) := by decide +kernel
theorem dX3_init_25 : decode cX3_init 25 = .ok (.aload_n 0, 1) := by decide +kernel
theorem dX3_init_26 : decode cX3_init 26 = .ok (.sipush 301, 3) := by decide +kernel
theorem dX3_init_29 : decode cX3_init 29 = .ok (.newarray .int, 2) := by decide +kernel
theorem dX3_init_31 : decode cX3_init 31 = .ok (.putfield 25, 3) := by decide +kernel
theorem dX3_init_34 : decode cX3_init 34 = .ok (.aload_n 0, 1) := by decide +kernel
theorem dX3_init_35 : decode cX3_init 35 = .ok (.sipush 301, 3) := by decide +kernel
theorem dX3_init_38 : decode cX3_init 38 = .ok (.newarray .int, 2) := by decide +kernel
theorem dX3_init_40 : decode cX3_init 40 = .ok (.putfield 29, 3) := by decide +kernel
theorem dX3_init_43 : decode cX3_init 43 = .ok (.aload_n 0, 1) := by decide +kernel
theorem dX3_init_44 : decode cX3_init 44 = .ok (.sipush 301, 3) := by decide +kernel
theorem dX3_init_47 : decode cX3_init 47 = .ok (.newarray .int, 2) := by decide +kernel
theorem dX3_init_49 : decode cX3_init 49 = .ok (.putfield 32, 3) := by decide +kernel
theorem dX3_init_52 : decode cX3_init 52 = .ok (.aload_n 0, 1) := by decide +kernel
theorem dX3_init_53 : decode cX3_init 53 = .ok (.iconst 0, 1) := by decide +kernel
theorem dX3_init_54 : decode cX3_init 54 = .ok (.putfield 35, 3) := by decide +kernel
theorem dX3_init_57 : decode cX3_init 57 = .ok (.aload_n 0, 1) := by decide +kernel
theorem dX3_init_58 : decode cX3_init 58 = .ok (.iconst 0, 1) := by decide +kernel
theorem dX3_init_59 : decode cX3_init 59 = .ok (.putfield 38, 3) := by decide +kernel
theorem dX3_init_62 : decode cX3_init 62 = .ok (.return_, 1) := by decide +kernel
theorem dX3_read_0 : decode cX3_read 0 = .ok (.aload_n 0, 1) := by decide +kernel
theorem dX3_read_1 : decode cX3_read 1 = .ok (.iconst 0, 1) := by decide +kernel
theorem dX3_read_2 : decode cX3_read 2 = .ok (.putfield 22, 3) := by decide +kernel
theorem dX3_read_5 : decode cX3_read 5 = .ok (.aload_n 0, 1) := by decide +kernel
theorem dX3_read_6 : decode cX3_read 6 = .ok (.iconst (-1), 1) := by decide +kernel
theorem dX3_read_7 : decode cX3_read 7 = .ok (.putfield 18, 3) := by decide +kernel
theorem dX3_read_10 : decode cX3_read 10 = .ok (.aload_n 0, 1) := by decide +kernel
theorem dX3_read_11 : decode cX3_read 11 = .ok (.getfield 12, 3) := by decide +kernel
theorem dX3_read_14 : decode cX3_read 14 = .ok (.iconst 0, 1) := by decide +kernel
theorem dX3_read_15 : decode cX3_read 15 = .ok (.putfield 41, 3) := by decide +kernel
theorem dX3_read_18 : decode cX3_read 18 = .ok (.aload_n 0, 1) := by decide +kernel
theorem dX3_read_19 : decode cX3_read 19 = .ok (.getfield 12, 3) := by decide +kernel
theorem dX3_read_22 : decode cX3_read 22 = .ok (.iconst 0, 1) := by decide +kernel
theorem dX3_read_23 : decode cX3_read 23 = .ok (.putfield 44, 3) := by decide +kernel
theorem dX3_read_26 : decode cX3_read 26 = .ok (.aload_n 0, 1) := by decide +kernel
theorem dX3_read_27 : decode cX3_read 27 = .ok (.aload_n 1, 1) := by decide +kernel
theorem dX3_read_28 : decode cX3_read 28 = .ok (.iload_n 2, 1) := by decide +kernel
theorem dX3_read_29 : decode cX3_read 29 = .ok (.aload_n 1, 1) := by decide +kernel
theorem dX3_read_30 : decode cX3_read 30 = .ok (.arraylength, 1) := by decide +kernel
theorem dX3_read_31 : decode cX3_read 31 = .ok (.sipush 300, 3) := by decide +kernel
theorem dX3_read_34 : decode cX3_read 34 = .ok (.invokestatic 47, 3) := by decide +kernel
theorem dX3_read_37 : decode cX3_read 37 = .ok (.invokestatic 47, 3) := by decide +kernel
theorem dX3_read_40 : decode cX3_read 40 = .ok (.invokevirtual 53, 3) := by decide +kernel
theorem dX3_read_43 : decode cX3_read 43 = .ok (.aload_n 0, 1) := by decide +kernel
theorem dX3_read_44 : decode cX3_read 44 = .ok (.iconst 0, 1) := by decide +kernel
theorem dX3_read_45 : decode cX3_read 45 = .ok (.putfield 38, 3) := by decide +kernel
theorem dX3_read_48 : decode cX3_read 48 = .ok (.iconst 1, 1) := by decide +kernel
theorem dX3_read_49 : decode cX3_read 49 = .ok (.istore_n 3, 1) := by decide +kernel
theorem dX3_read_50 : decode cX3_read 50 = .ok (.iconst 0, 1) := by decide +kernel
theorem dX3_read_51 : decode cX3_read 51 = .ok (.istore 4, 2) := by decide +kernel
theorem dX3_read_53 : decode cX3_read 53 = .ok (.iload 4, 2) := by decide +kernel
theorem dX3_read_55 : decode cX3_read 55 = .ok (.bipush 14, 2) := by decide +kernel
theorem dX3_read_57 : decode cX3_read 57 = .ok (.if_icmp .gt 34, 3) := by decide +kernel
theorem dX3_read_60 : decode cX3_read 60 = .ok (.iload_n 3, 1) := by decide +kernel
theorem dX3_read_61 : decode cX3_read 61 = .ok (.ifCond .eq 30, 3) := by decide +kernel
theorem dX3_read_64 : decode cX3_read 64 = .ok (.aload_n 0, 1) := by decide +kernel
theorem dX3_read_65 : decode cX3_read 65 = .ok (.getfield 25, 3) := by decide +kernel
theorem dX3_read_68 : decode cX3_read 68 = .ok (.aload_n 0, 1) := by decide +kernel
theorem dX3_read_69 : decode cX3_read 69 = .ok (.getfield 38, 3) := by decide +kernel
theorem dX3_read_72 : decode cX3_read 72 = .ok (.iaload, 1) := by decide +kernel
theorem dX3_read_73 : decode cX3_read 73 = .ok (.bipush (-24), 2) := by decide +kernel
theorem dX3_read_75 : decode cX3_read 75 = .ok (.if_icmp .eq 16, 3) := by decide +kernel
theorem dX3_read_78 : decode cX3_read 78 = .ok (.aload_n 0, 1) := by decide +kernel
theorem dX3_read_79 : decode cX3_read 79 = .ok (.iload 4, 2) := by decide +kernel
theorem dX3_read_81 : decode cX3_read 81 = .ok (.invokevirtual 57, 3) := by decide +kernel
theorem dX3_read_84 : decode cX3_read 84 = .ok (.istore_n 3, 1) := by decide +kernel
theorem dX3_read_85 : decode cX3_read 85 = .ok (.iinc 4 1, 3) := by decide +kernel
theorem dX3_read_88 : decode cX3_read 88 = .ok (.goto (-35), 3) := by decide +kernel
theorem dX3_read_91 : decode cX3_read 91 = .ok (.aload_n 0, 1) := by decide +kernel
theorem dX3_read_92 : decode cX3_read 92 = .ok (.getfield 22, 3) := by decide +kernel
theorem dX3_read_95 : decode cX3_read 95 = .ok (.ireturn, 1) := by decide +kernel
theorem dX3_scan_0 : decode cX3_scan 0 = .ok (.aload_n 0, 1) := by decide +kernel
theorem dX3_scan_1 : decode cX3_scan 1 = .ok (.iconst 0, 1) := by decide +kernel
theorem dX3_scan_2 : decode cX3_scan 2 = .ok (.putfield 35, 3) := by decide +kernel
theorem dX3_scan_5 : decode cX3_scan 5 = .ok (.iconst 0, 1) := by decide +kernel
theorem dX3_scan_6 : decode cX3_scan 6 = .ok (.istore_n 3, 1) := by decide +kernel
theorem dX3_scan_7 : decode cX3_scan 7 = .ok (.iconst 0, 1) := by decide +kernel
theorem dX3_scan_8 : decode cX3_scan 8 = .ok (.istore 4, 2) := by decide +kernel
theorem dX3_scan_10 : decode cX3_scan 10 = .ok (.iload 4, 2) := by decide +kernel
theorem dX3_scan_12 : decode cX3_scan 12 = .ok (.sipush 300, 3) := by decide +kernel
theorem dX3_scan_15 : decode cX3_scan 15 = .ok (.if_icmp .ge 108, 3) := by decide +kernel
theorem dX3_scan_18 : decode cX3_scan 18 = .ok (.iload_n 3, 1) := by decide +kernel
theorem dX3_scan_19 : decode cX3_scan 19 = .ok (.iload_n 2, 1) := by decide +kernel
theorem dX3_scan_20 : decode cX3_scan 20 = .ok (.if_icmp .ge 103, 3) := by decide +kernel
theorem dX3_scan_23 : decode cX3_scan 23 = .ok (.aload_n 1, 1) := by decide +kernel
theorem dX3_scan_24 : decode cX3_scan 24 = .ok (.iload_n 3, 1) := by decide +kernel
theorem dX3_scan_25 : decode cX3_scan 25 = .ok (.baload, 1) := by decide +kernel
theorem dX3_scan_26 : decode cX3_scan 26 = .ok (.sipush 255, 3) := by decide +kernel
theorem dX3_scan_29 : decode cX3_scan 29 = .ok (.iand, 1) := by decide +kernel
theorem dX3_scan_30 : decode cX3_scan 30 = .ok (.istore 5, 2) := by decide +kernel
theorem dX3_scan_32 : decode cX3_scan 32 = .ok (.iload 5, 2) := by decide +kernel
theorem dX3_scan_34 : decode cX3_scan 34 = .ok (.bipush 32, 2) := by decide +kernel
theorem dX3_scan_36 : decode cX3_scan 36 = .ok (.if_icmp .ne 9, 3) := by decide +kernel
theorem dX3_scan_39 : decode cX3_scan 39 = .ok (.iinc 3 1, 3) := by decide +kernel
theorem dX3_scan_42 : decode cX3_scan 42 = .ok (.goto 75, 3) := by decide +kernel
theorem dX3_scan_45 : decode cX3_scan 45 = .ok (.aload_n 0, 1) := by decide +kernel
theorem dX3_scan_46 : decode cX3_scan 46 = .ok (.getfield 29, 3) := by decide +kernel
theorem dX3_scan_49 : decode cX3_scan 49 = .ok (.aload_n 0, 1) := by decide +kernel
theorem dX3_scan_50 : decode cX3_scan 50 = .ok (.getfield 35, 3) := by decide +kernel
theorem dX3_scan_53 : decode cX3_scan 53 = .ok (.iload_n 3, 1) := by decide +kernel
theorem dX3_scan_54 : decode cX3_scan 54 = .ok (.iastore, 1) := by decide +kernel
theorem dX3_scan_55 : decode cX3_scan 55 = .ok (.iload 5, 2) := by decide +kernel
theorem dX3_scan_57 : decode cX3_scan 57 = .ok (.invokestatic 61, 3) := by decide +kernel
theorem dX3_scan_60 : decode cX3_scan 60 = .ok (.ifCond .eq 14, 3) := by decide +kernel
theorem dX3_scan_63 : decode cX3_scan 63 = .ok (.aload_n 0, 1) := by decide +kernel
theorem dX3_scan_64 : decode cX3_scan 64 = .ok (.aload_n 1, 1) := by decide +kernel
theorem dX3_scan_65 : decode cX3_scan 65 = .ok (.iload_n 3, 1) := by decide +kernel
theorem dX3_scan_66 : decode cX3_scan 66 = .ok (.iload_n 2, 1) := by decide +kernel
theorem dX3_scan_67 : decode cX3_scan 67 = .ok (.invokevirtual 64, 3) := by decide +kernel
theorem dX3_scan_70 : decode cX3_scan 70 = .ok (.istore_n 3, 1) := by decide +kernel
theorem dX3_scan_71 : decode cX3_scan 71 = .ok (.goto 36, 3) := by decide +kernel
theorem dX3_scan_74 : decode cX3_scan 74 = .ok (.iload 5, 2) := by decide +kernel
theorem dX3_scan_76 : decode cX3_scan 76 = .ok (.invokestatic 68, 3) := by decide +kernel
theorem dX3_scan_79 : decode cX3_scan 79 = .ok (.ifCond .eq 14, 3) := by decide +kernel
theorem dX3_scan_82 : decode cX3_scan 82 = .ok (.aload_n 0, 1) := by decide +kernel
theorem dX3_scan_83 : decode cX3_scan 83 = .ok (.aload_n 1, 1) := by decide +kernel
theorem dX3_scan_84 : decode cX3_scan 84 = .ok (.iload_n 3, 1) := by decide +kernel
theorem dX3_scan_85 : decode cX3_scan 85 = .ok (.iload_n 2, 1) := by decide +kernel
theorem dX3_scan_86 : decode cX3_scan 86 = .ok (.invokevirtual 71, 3) := by decide +kernel
theorem dX3_scan_89 : decode cX3_scan 89 = .ok (.istore_n 3, 1) := by decide +kernel
theorem dX3_scan_90 : decode cX3_scan 90 = .ok (.goto 17, 3) := by decide +kernel
theorem dX3_scan_93 : decode cX3_scan 93 = .ok (.aload_n 0, 1) := by decide +kernel
theorem dX3_scan_94 : decode cX3_scan 94 = .ok (.getfield 25, 3) := by decide +kernel
theorem dX3_scan_97 : decode cX3_scan 97 = .ok (.aload_n 0, 1) := by decide +kernel
theorem dX3_scan_98 : decode cX3_scan 98 = .ok (.getfield 35, 3) := by decide +kernel
theorem dX3_scan_101 : decode cX3_scan 101 = .ok (.iload 5, 2) := by decide +kernel
theorem dX3_scan_103 : decode cX3_scan 103 = .ok (.iastore, 1) := by decide +kernel
theorem dX3_scan_104 : decode cX3_scan 104 = .ok (.iinc 3 1, 3) := by decide +kernel
theorem dX3_scan_107 : decode cX3_scan 107 = .ok (.aload_n 0, 1) := by decide +kernel
theorem dX3_scan_108 : decode cX3_scan 108 = .ok (.dup, 1) := by decide +kernel
theorem dX3_scan_109 : decode cX3_scan 109 = .ok (.getfield 35, 3) := by decide +kernel
theorem dX3_scan_112 : decode cX3_scan 112 = .ok (.iconst 1, 1) := by decide +kernel
theorem dX3_scan_113 : decode cX3_scan 113 = .ok (.iadd, 1) := by decide +kernel
theorem dX3_scan_114 : decode cX3_scan 114 = .ok (.putfield 35, 3) := by decide +kernel
theorem dX3_scan_117 : decode cX3_scan 117 = .ok (.iinc 4 1, 3) := by decide +kernel
theorem dX3_scan_120 : decode cX3_scan 120 = .ok (.goto (-110), 3) := by decide +kernel
theorem dX3_scan_123 : decode cX3_scan 123 = .ok (.aload_n 0, 1) := by decide +kernel
theorem dX3_scan_124 : decode cX3_scan 124 = .ok (.getfield 25, 3) := by decide +kernel
theorem dX3_scan_127 : decode cX3_scan 127 = .ok (.aload_n 0, 1) := by decide +kernel
theorem dX3_scan_128 : decode cX3_scan 128 = .ok (.getfield 35, 3) := by decide +kernel
theorem dX3_scan_131 : decode cX3_scan 131 = .ok (.bipush (-24), 2) := by decide +kernel
theorem dX3_scan_133 : decode cX3_scan 133 = .ok (.iastore, 1) := by decide +kernel
theorem dX3_scan_134 : decode cX3_scan 134 = .ok (.aload_n 0, 1) := by decide +kernel
theorem dX3_scan_135 : decode cX3_scan 135 = .ok (.getfield 29, 3) := by decide +kernel
theorem dX3_scan_138 : decode cX3_scan 138 = .ok (.aload_n 0, 1) := by decide +kernel
theorem dX3_scan_139 : decode cX3_scan 139 = .ok (.getfield 35, 3) := by decide +kernel
theorem dX3_scan_142 : decode cX3_scan 142 = .ok (.iload_n 2, 1) := by decide +kernel
theorem dX3_scan_143 : decode cX3_scan 143 = .ok (.iastore, 1) := by decide +kernel
theorem dX3_scan_144 : decode cX3_scan 144 = .ok (.return_, 1) := by decide +kernel
theorem dX3_scanNumber_0 : decode cX3_scanNumber 0 = .ok (.iconst 0, 1) := by decide +kernel
theorem dX3_scanNumber_1 : decode cX3_scanNumber 1 = .ok (.istore 4, 2) := by decide +kernel
theorem dX3_scanNumber_3 : decode cX3_scanNumber 3 = .ok (.iload_n 2, 1) := by decide +kernel
theorem dX3_scanNumber_4 : decode cX3_scanNumber 4 = .ok (.istore 5, 2) := by decide +kernel
theorem dX3_scanNumber_6 : decode cX3_scanNumber 6 = .ok (.iload 5, 2) := by decide +kernel
theorem dX3_scanNumber_8 : decode cX3_scanNumber 8 = .ok (.iload_n 3, 1) := by decide +kernel
theorem dX3_scanNumber_9 : decode cX3_scanNumber 9 = .ok (.if_icmp .ge 42, 3) := by decide +kernel
theorem dX3_scanNumber_12 : decode cX3_scanNumber 12 = .ok (.aload_n 1, 1) := by decide +kernel
theorem dX3_scanNumber_13 : decode cX3_scanNumber 13 = .ok (.iload 5, 2) := by decide +kernel
theorem dX3_scanNumber_15 : decode cX3_scanNumber 15 = .ok (.baload, 1) := by decide +kernel
theorem dX3_scanNumber_16 : decode cX3_scanNumber 16 = .ok (.invokestatic 61, 3) := by decide +kernel
theorem dX3_scanNumber_19 : decode cX3_scanNumber 19 = .ok (.ifCond .eq 32, 3) := by decide +kernel
theorem dX3_scanNumber_22 : decode cX3_scanNumber 22 = .ok (.iload 4, 2) := by decide +kernel
theorem dX3_scanNumber_24 : decode cX3_scanNumber 24 = .ok (.sipush 9999, 3) := by decide +kernel
theorem dX3_scanNumber_27 : decode cX3_scanNumber 27 = .ok (.if_icmp .gt 18, 3) := by decide +kernel
theorem dX3_scanNumber_30 : decode cX3_scanNumber 30 = .ok (.iload 4, 2) := by decide +kernel
theorem dX3_scanNumber_32 : decode cX3_scanNumber 32 = .ok (.bipush 10, 2) := by decide +kernel
theorem dX3_scanNumber_34 : decode cX3_scanNumber 34 = .ok (.imul, 1) := by decide +kernel
theorem dX3_scanNumber_35 : decode cX3_scanNumber 35 = .ok (.aload_n 1, 1) := by decide +kernel
theorem dX3_scanNumber_36 : decode cX3_scanNumber 36 = .ok (.iload 5, 2) := by decide +kernel
theorem dX3_scanNumber_38 : decode cX3_scanNumber 38 = .ok (.baload, 1) := by decide +kernel
theorem dX3_scanNumber_39 : decode cX3_scanNumber 39 = .ok (.iadd, 1) := by decide +kernel
theorem dX3_scanNumber_40 : decode cX3_scanNumber 40 = .ok (.bipush 48, 2) := by decide +kernel
theorem dX3_scanNumber_42 : decode cX3_scanNumber 42 = .ok (.isub, 1) := by decide +kernel
theorem dX3_scanNumber_43 : decode cX3_scanNumber 43 = .ok (.istore 4, 2) := by decide +kernel
theorem dX3_scanNumber_45 : decode cX3_scanNumber 45 = .ok (.iinc 5 1, 3) := by decide +kernel
theorem dX3_scanNumber_48 : decode cX3_scanNumber 48 = .ok (.goto (-42), 3) := by decide +kernel
theorem dX3_scanNumber_51 : decode cX3_scanNumber 51 = .ok (.aload_n 0, 1) := by decide +kernel
theorem dX3_scanNumber_52 : decode cX3_scanNumber 52 = .ok (.getfield 25, 3) := by decide +kernel
theorem dX3_scanNumber_55 : decode cX3_scanNumber 55 = .ok (.aload_n 0, 1) := by decide +kernel
theorem dX3_scanNumber_56 : decode cX3_scanNumber 56 = .ok (.getfield 35, 3) := by decide +kernel
theorem dX3_scanNumber_59 : decode cX3_scanNumber 59 = .ok (.bipush (-22), 2) := by decide +kernel
theorem dX3_scanNumber_61 : decode cX3_scanNumber 61 = .ok (.iastore, 1) := by decide +kernel
theorem dX3_scanNumber_62 : decode cX3_scanNumber 62 = .ok (.aload_n 0, 1) := by decide +kernel
theorem dX3_scanNumber_63 : decode cX3_scanNumber 63 = .ok (.getfield 32, 3) := by decide +kernel
theorem dX3_scanNumber_66 : decode cX3_scanNumber 66 = .ok (.aload_n 0, 1) := by decide +kernel
theorem dX3_scanNumber_67 : decode cX3_scanNumber 67 = .ok (.getfield 35, 3) := by decide +kernel
theorem dX3_scanNumber_70 : decode cX3_scanNumber 70 = .ok (.iload 4, 2) := by decide +kernel
theorem dX3_scanNumber_72 : decode cX3_scanNumber 72 = .ok (.iastore, 1) := by decide +kernel
theorem dX3_scanNumber_73 : decode cX3_scanNumber 73 = .ok (.iload 5, 2) := by decide +kernel
theorem dX3_scanNumber_75 : decode cX3_scanNumber 75 = .ok (.ireturn, 1) := by decide +kernel
theorem dX3_scanWord_0 : decode cX3_scanWord 0 = .ok (.iload_n 2, 1) := by decide +kernel
theorem dX3_scanWord_1 : decode cX3_scanWord 1 = .ok (.istore 4, 2) := by decide +kernel
theorem dX3_scanWord_3 : decode cX3_scanWord 3 = .ok (.iload 4, 2) := by decide +kernel
theorem dX3_scanWord_5 : decode cX3_scanWord 5 = .ok (.iload_n 3, 1) := by decide +kernel
theorem dX3_scanWord_6 : decode cX3_scanWord 6 = .ok (.if_icmp .ge 19, 3) := by decide +kernel
theorem dX3_scanWord_9 : decode cX3_scanWord 9 = .ok (.aload_n 1, 1) := by decide +kernel
theorem dX3_scanWord_10 : decode cX3_scanWord 10 = .ok (.iload 4, 2) := by decide +kernel
theorem dX3_scanWord_12 : decode cX3_scanWord 12 = .ok (.baload, 1) := by decide +kernel
theorem dX3_scanWord_13 : decode cX3_scanWord 13 = .ok (.invokestatic 68, 3) := by decide +kernel
theorem dX3_scanWord_16 : decode cX3_scanWord 16 = .ok (.ifCond .eq 9, 3) := by decide +kernel
theorem dX3_scanWord_19 : decode cX3_scanWord 19 = .ok (.iinc 4 1, 3) := by decide +kernel
theorem dX3_scanWord_22 : decode cX3_scanWord 22 = .ok (.goto (-19), 3) := by decide +kernel
theorem dX3_scanWord_25 : decode cX3_scanWord 25 = .ok (.aload_n 1, 1) := by decide +kernel
theorem dX3_scanWord_26 : decode cX3_scanWord 26 = .ok (.iload_n 2, 1) := by decide +kernel
theorem dX3_scanWord_27 : decode cX3_scanWord 27 = .ok (.iload 4, 2) := by decide +kernel
theorem dX3_scanWord_29 : decode cX3_scanWord 29 = .ok (.invokestatic 74, 3) := by decide +kernel
theorem dX3_scanWord_32 : decode cX3_scanWord 32 = .ok (.istore 5, 2) := by decide +kernel
theorem dX3_scanWord_34 : decode cX3_scanWord 34 = .ok (.iload 5, 2) := by decide +kernel
theorem dX3_scanWord_36 : decode cX3_scanWord 36 = .ok (.bipush (-23), 2) := by decide +kernel
theorem dX3_scanWord_38 : decode cX3_scanWord 38 = .ok (.if_icmp .ne 12, 3) := by decide +kernel
theorem dX3_scanWord_41 : decode cX3_scanWord 41 = .ok (.aload_n 1, 1) := by decide +kernel
theorem dX3_scanWord_42 : decode cX3_scanWord 42 = .ok (.iload_n 2, 1) := by decide +kernel
theorem dX3_scanWord_43 : decode cX3_scanWord 43 = .ok (.iload 4, 2) := by decide +kernel
theorem dX3_scanWord_45 : decode cX3_scanWord 45 = .ok (.invokestatic 77, 3) := by decide +kernel
theorem dX3_scanWord_48 : decode cX3_scanWord 48 = .ok (.istore 5, 2) := by decide +kernel
theorem dX3_scanWord_50 : decode cX3_scanWord 50 = .ok (.aload_n 0, 1) := by decide +kernel
theorem dX3_scanWord_51 : decode cX3_scanWord 51 = .ok (.getfield 25, 3) := by decide +kernel
theorem dX3_scanWord_54 : decode cX3_scanWord 54 = .ok (.aload_n 0, 1) := by decide +kernel
theorem dX3_scanWord_55 : decode cX3_scanWord 55 = .ok (.getfield 35, 3) := by decide +kernel
theorem dX3_scanWord_58 : decode cX3_scanWord 58 = .ok (.iload 5, 2) := by decide +kernel
theorem dX3_scanWord_60 : decode cX3_scanWord 60 = .ok (.iastore, 1) := by decide +kernel
theorem dX3_scanWord_61 : decode cX3_scanWord 61 = .ok (.iload 4, 2) := by decide +kernel
theorem dX3_scanWord_63 : decode cX3_scanWord 63 = .ok (.ireturn, 1) := by decide +kernel
theorem dX3_isDigit_0 : decode cX3_isDigit 0 = .ok (.iload_n 0, 1) := by decide +kernel
theorem dX3_isDigit_1 : decode cX3_isDigit 1 = .ok (.bipush 48, 2) := by decide +kernel
theorem dX3_isDigit_3 : decode cX3_isDigit 3 = .ok (.if_icmp .lt 13, 3) := by decide +kernel
theorem dX3_isDigit_6 : decode cX3_isDigit 6 = .ok (.iload_n 0, 1) := by decide +kernel
theorem dX3_isDigit_7 : decode cX3_isDigit 7 = .ok (.bipush 57, 2) := by decide +kernel
theorem dX3_isDigit_9 : decode cX3_isDigit 9 = .ok (.if_icmp .gt 7, 3) := by decide +kernel
theorem dX3_isDigit_12 : decode cX3_isDigit 12 = .ok (.iconst 1, 1) := by decide +kernel
theorem dX3_isDigit_13 : decode cX3_isDigit 13 = .ok (.goto 4, 3) := by decide +kernel
theorem dX3_isDigit_16 : decode cX3_isDigit 16 = .ok (.iconst 0, 1) := by decide +kernel
theorem dX3_isDigit_17 : decode cX3_isDigit 17 = .ok (.ireturn, 1) := by decide +kernel
theorem dX3_isLetter_0 : decode cX3_isLetter 0 = .ok (.iload_n 0, 1) := by decide +kernel
theorem dX3_isLetter_1 : decode cX3_isLetter 1 = .ok (.bipush 97, 2) := by decide +kernel
theorem dX3_isLetter_3 : decode cX3_isLetter 3 = .ok (.if_icmp .lt 13, 3) := by decide +kernel
theorem dX3_isLetter_6 : decode cX3_isLetter 6 = .ok (.iload_n 0, 1) := by decide +kernel
theorem dX3_isLetter_7 : decode cX3_isLetter 7 = .ok (.bipush 122, 2) := by decide +kernel
theorem dX3_isLetter_9 : decode cX3_isLetter 9 = .ok (.if_icmp .gt 7, 3) := by decide +kernel
theorem dX3_isLetter_12 : decode cX3_isLetter 12 = .ok (.iconst 1, 1) := by decide +kernel
theorem dX3_isLetter_13 : decode cX3_isLetter 13 = .ok (.goto 4, 3) := by decide +kernel
theorem dX3_isLetter_16 : decode cX3_isLetter 16 = .ok (.iconst 0, 1) := by decide +kernel
theorem dX3_isLetter_17 : decode cX3_isLetter 17 = .ok (.ireturn, 1) := by decide +kernel
theorem dX3_clauseWord_0 : decode cX3_clauseWord 0 = .ok (.aload_n 0, 1) := by decide +kernel
theorem dX3_clauseWord_1 : decode cX3_clauseWord 1 = .ok (.iload_n 1, 1) := by decide +kernel
theorem dX3_clauseWord_2 : decode cX3_clauseWord 2 = .ok (.iload_n 2, 1) := by decide +kernel
theorem dX3_clauseWord_3 : decode cX3_clauseWord 3 = .ok (.ldc 80, 2) := by decide +kernel
theorem dX3_clauseWord_5 : decode cX3_clauseWord 5 = .ok (.invokestatic 82, 3) := by decide +kernel
theorem dX3_clauseWord_8 : decode cX3_clauseWord 8 = .ok (.ifCond .eq 6, 3) := by decide +kernel
theorem dX3_clauseWord_11 : decode cX3_clauseWord 11 = .ok (.bipush (-17), 2) := by decide +kernel
theorem dX3_clauseWord_13 : decode cX3_clauseWord 13 = .ok (.ireturn, 1) := by decide +kernel
theorem dX3_clauseWord_14 : decode cX3_clauseWord 14 = .ok (.aload_n 0, 1) := by decide +kernel
theorem dX3_clauseWord_15 : decode cX3_clauseWord 15 = .ok (.iload_n 1, 1) := by decide +kernel
theorem dX3_clauseWord_16 : decode cX3_clauseWord 16 = .ok (.iload_n 2, 1) := by decide +kernel
theorem dX3_clauseWord_17 : decode cX3_clauseWord 17 = .ok (.ldc 86, 2) := by decide +kernel
theorem dX3_clauseWord_19 : decode cX3_clauseWord 19 = .ok (.invokestatic 82, 3) := by decide +kernel
theorem dX3_clauseWord_22 : decode cX3_clauseWord 22 = .ok (.ifCond .eq 6, 3) := by decide +kernel
theorem dX3_clauseWord_25 : decode cX3_clauseWord 25 = .ok (.bipush (-18), 2) := by decide +kernel
theorem dX3_clauseWord_27 : decode cX3_clauseWord 27 = .ok (.ireturn, 1) := by decide +kernel
theorem dX3_clauseWord_28 : decode cX3_clauseWord 28 = .ok (.aload_n 0, 1) := by decide +kernel
theorem dX3_clauseWord_29 : decode cX3_clauseWord 29 = .ok (.iload_n 1, 1) := by decide +kernel
theorem dX3_clauseWord_30 : decode cX3_clauseWord 30 = .ok (.iload_n 2, 1) := by decide +kernel
theorem dX3_clauseWord_31 : decode cX3_clauseWord 31 = .ok (.ldc 88, 2) := by decide +kernel
theorem dX3_clauseWord_33 : decode cX3_clauseWord 33 = .ok (.invokestatic 82, 3) := by decide +kernel
theorem dX3_clauseWord_36 : decode cX3_clauseWord 36 = .ok (.ifCond .eq 6, 3) := by decide +kernel
theorem dX3_clauseWord_39 : decode cX3_clauseWord 39 = .ok (.bipush (-19), 2) := by decide +kernel
theorem dX3_clauseWord_41 : decode cX3_clauseWord 41 = .ok (.ireturn, 1) := by decide +kernel
theorem dX3_clauseWord_42 : decode cX3_clauseWord 42 = .ok (.aload_n 0, 1) := by decide +kernel
theorem dX3_clauseWord_43 : decode cX3_clauseWord 43 = .ok (.iload_n 1, 1) := by decide +kernel
theorem dX3_clauseWord_44 : decode cX3_clauseWord 44 = .ok (.iload_n 2, 1) := by decide +kernel
theorem dX3_clauseWord_45 : decode cX3_clauseWord 45 = .ok (.ldc 90, 2) := by decide +kernel
theorem dX3_clauseWord_47 : decode cX3_clauseWord 47 = .ok (.invokestatic 82, 3) := by decide +kernel
theorem dX3_clauseWord_50 : decode cX3_clauseWord 50 = .ok (.ifCond .eq 6, 3) := by decide +kernel
theorem dX3_clauseWord_53 : decode cX3_clauseWord 53 = .ok (.bipush (-20), 2) := by decide +kernel
theorem dX3_clauseWord_55 : decode cX3_clauseWord 55 = .ok (.ireturn, 1) := by decide +kernel
theorem dX3_clauseWord_56 : decode cX3_clauseWord 56 = .ok (.aload_n 0, 1) := by decide +kernel
theorem dX3_clauseWord_57 : decode cX3_clauseWord 57 = .ok (.iload_n 1, 1) := by decide +kernel
theorem dX3_clauseWord_58 : decode cX3_clauseWord 58 = .ok (.iload_n 2, 1) := by decide +kernel
theorem dX3_clauseWord_59 : decode cX3_clauseWord 59 = .ok (.ldc 92, 2) := by decide +kernel
theorem dX3_clauseWord_61 : decode cX3_clauseWord 61 = .ok (.invokestatic 82, 3) := by decide +kernel
theorem dX3_clauseWord_64 : decode cX3_clauseWord 64 = .ok (.ifCond .eq 8, 3) := by decide +kernel
theorem dX3_clauseWord_67 : decode cX3_clauseWord 67 = .ok (.bipush (-21), 2) := by decide +kernel
theorem dX3_clauseWord_69 : decode cX3_clauseWord 69 = .ok (.goto 5, 3) := by decide +kernel
theorem dX3_clauseWord_72 : decode cX3_clauseWord 72 = .ok (.bipush (-23), 2) := by decide +kernel
theorem dX3_clauseWord_74 : decode cX3_clauseWord 74 = .ok (.ireturn, 1) := by decide +kernel
theorem dX3_conditionWord_0 : decode cX3_conditionWord 0 = .ok (.aload_n 0, 1) := by decide +kernel
theorem dX3_conditionWord_1 : decode cX3_conditionWord 1 = .ok (.iload_n 1, 1) := by decide +kernel
theorem dX3_conditionWord_2 : decode cX3_conditionWord 2 = .ok (.iload_n 2, 1) := by decide +kernel
theorem dX3_conditionWord_3 : decode cX3_conditionWord 3 = .ok (.ldc 94, 2) := by decide +kernel
theorem dX3_conditionWord_5 : decode cX3_conditionWord 5 = .ok (.invokestatic 82, 3) := by decide +kernel
theorem dX3_conditionWord_8 : decode cX3_conditionWord 8 = .ok (.ifCond .eq 6, 3) := by decide +kernel
theorem dX3_conditionWord_11 : decode cX3_conditionWord 11 = .ok (.bipush (-10), 2) := by decide +kernel
theorem dX3_conditionWord_13 : decode cX3_conditionWord 13 = .ok (.ireturn, 1) := by decide +kernel
theorem dX3_conditionWord_14 : decode cX3_conditionWord 14 = .ok (.aload_n 0, 1) := by decide +kernel
theorem dX3_conditionWord_15 : decode cX3_conditionWord 15 = .ok (.iload_n 1, 1) := by decide +kernel
theorem dX3_conditionWord_16 : decode cX3_conditionWord 16 = .ok (.iload_n 2, 1) := by decide +kernel
theorem dX3_conditionWord_17 : decode cX3_conditionWord 17 = .ok (.ldc 96, 2) := by decide +kernel
theorem dX3_conditionWord_19 : decode cX3_conditionWord 19 = .ok (.invokestatic 82, 3) := by decide +kernel
theorem dX3_conditionWord_22 : decode cX3_conditionWord 22 = .ok (.ifCond .eq 6, 3) := by decide +kernel
theorem dX3_conditionWord_25 : decode cX3_conditionWord 25 = .ok (.bipush (-9), 2) := by decide +kernel
theorem dX3_conditionWord_27 : decode cX3_conditionWord 27 = .ok (.ireturn, 1) := by decide +kernel
theorem dX3_conditionWord_28 : decode cX3_conditionWord 28 = .ok (.aload_n 0, 1) := by decide +kernel
theorem dX3_conditionWord_29 : decode cX3_conditionWord 29 = .ok (.iload_n 1, 1) := by decide +kernel
theorem dX3_conditionWord_30 : decode cX3_conditionWord 30 = .ok (.iload_n 2, 1) := by decide +kernel
theorem dX3_conditionWord_31 : decode cX3_conditionWord 31 = .ok (.ldc 98, 2) := by decide +kernel
theorem dX3_conditionWord_33 : decode cX3_conditionWord 33 = .ok (.invokestatic 82, 3) := by decide +kernel
theorem dX3_conditionWord_36 : decode cX3_conditionWord 36 = .ok (.ifCond .eq 6, 3) := by decide +kernel
theorem dX3_conditionWord_39 : decode cX3_conditionWord 39 = .ok (.bipush (-8), 2) := by decide +kernel
theorem dX3_conditionWord_41 : decode cX3_conditionWord 41 = .ok (.ireturn, 1) := by decide +kernel
theorem dX3_conditionWord_42 : decode cX3_conditionWord 42 = .ok (.aload_n 0, 1) := by decide +kernel
theorem dX3_conditionWord_43 : decode cX3_conditionWord 43 = .ok (.iload_n 1, 1) := by decide +kernel
theorem dX3_conditionWord_44 : decode cX3_conditionWord 44 = .ok (.iload_n 2, 1) := by decide +kernel
theorem dX3_conditionWord_45 : decode cX3_conditionWord 45 = .ok (.ldc 100, 2) := by decide +kernel
theorem dX3_conditionWord_47 : decode cX3_conditionWord 47 = .ok (.invokestatic 82, 3) := by decide +kernel
theorem dX3_conditionWord_50 : decode cX3_conditionWord 50 = .ok (.ifCond .eq 5, 3) := by decide +kernel
theorem dX3_conditionWord_53 : decode cX3_conditionWord 53 = .ok (.iconst (-1), 1) := by decide +kernel
theorem dX3_conditionWord_54 : decode cX3_conditionWord 54 = .ok (.ireturn, 1) := by decide +kernel
theorem dX3_conditionWord_55 : decode cX3_conditionWord 55 = .ok (.aload_n 0, 1) := by decide +kernel
theorem dX3_conditionWord_56 : decode cX3_conditionWord 56 = .ok (.iload_n 1, 1) := by decide +kernel
theorem dX3_conditionWord_57 : decode cX3_conditionWord 57 = .ok (.iload_n 2, 1) := by decide +kernel
theorem dX3_conditionWord_58 : decode cX3_conditionWord 58 = .ok (.ldc 102, 2) := by decide +kernel
theorem dX3_conditionWord_60 : decode cX3_conditionWord 60 = .ok (.invokestatic 82, 3) := by decide +kernel
theorem dX3_conditionWord_63 : decode cX3_conditionWord 63 = .ok (.ifCond .eq 6, 3) := by decide +kernel
theorem dX3_conditionWord_66 : decode cX3_conditionWord 66 = .ok (.bipush (-2), 2) := by decide +kernel
theorem dX3_conditionWord_68 : decode cX3_conditionWord 68 = .ok (.ireturn, 1) := by decide +kernel
theorem dX3_conditionWord_69 : decode cX3_conditionWord 69 = .ok (.aload_n 0, 1) := by decide +kernel
theorem dX3_conditionWord_70 : decode cX3_conditionWord 70 = .ok (.iload_n 1, 1) := by decide +kernel
theorem dX3_conditionWord_71 : decode cX3_conditionWord 71 = .ok (.iload_n 2, 1) := by decide +kernel
theorem dX3_conditionWord_72 : decode cX3_conditionWord 72 = .ok (.ldc 104, 2) := by decide +kernel
theorem dX3_conditionWord_74 : decode cX3_conditionWord 74 = .ok (.invokestatic 82, 3) := by decide +kernel
theorem dX3_conditionWord_77 : decode cX3_conditionWord 77 = .ok (.ifCond .eq 6, 3) := by decide +kernel
theorem dX3_conditionWord_80 : decode cX3_conditionWord 80 = .ok (.bipush (-3), 2) := by decide +kernel
theorem dX3_conditionWord_82 : decode cX3_conditionWord 82 = .ok (.ireturn, 1) := by decide +kernel
theorem dX3_conditionWord_83 : decode cX3_conditionWord 83 = .ok (.aload_n 0, 1) := by decide +kernel
theorem dX3_conditionWord_84 : decode cX3_conditionWord 84 = .ok (.iload_n 1, 1) := by decide +kernel
theorem dX3_conditionWord_85 : decode cX3_conditionWord 85 = .ok (.iload_n 2, 1) := by decide +kernel
theorem dX3_conditionWord_86 : decode cX3_conditionWord 86 = .ok (.ldc 106, 2) := by decide +kernel
theorem dX3_conditionWord_88 : decode cX3_conditionWord 88 = .ok (.invokestatic 82, 3) := by decide +kernel
theorem dX3_conditionWord_91 : decode cX3_conditionWord 91 = .ok (.ifCond .eq 6, 3) := by decide +kernel
theorem dX3_conditionWord_94 : decode cX3_conditionWord 94 = .ok (.bipush (-4), 2) := by decide +kernel
theorem dX3_conditionWord_96 : decode cX3_conditionWord 96 = .ok (.ireturn, 1) := by decide +kernel
theorem dX3_conditionWord_97 : decode cX3_conditionWord 97 = .ok (.aload_n 0, 1) := by decide +kernel
theorem dX3_conditionWord_98 : decode cX3_conditionWord 98 = .ok (.iload_n 1, 1) := by decide +kernel
theorem dX3_conditionWord_99 : decode cX3_conditionWord 99 = .ok (.iload_n 2, 1) := by decide +kernel
theorem dX3_conditionWord_100 : decode cX3_conditionWord 100 = .ok (.ldc 108, 2) := by decide +kernel
theorem dX3_conditionWord_102 : decode cX3_conditionWord 102 = .ok (.invokestatic 82, 3) := by decide +kernel
theorem dX3_conditionWord_105 : decode cX3_conditionWord 105 = .ok (.ifCond .eq 6, 3) := by decide +kernel
theorem dX3_conditionWord_108 : decode cX3_conditionWord 108 = .ok (.bipush (-5), 2) := by decide +kernel
theorem dX3_conditionWord_110 : decode cX3_conditionWord 110 = .ok (.ireturn, 1) := by decide +kernel
theorem dX3_conditionWord_111 : decode cX3_conditionWord 111 = .ok (.aload_n 0, 1) := by decide +kernel
theorem dX3_conditionWord_112 : decode cX3_conditionWord 112 = .ok (.iload_n 1, 1) := by decide +kernel
theorem dX3_conditionWord_113 : decode cX3_conditionWord 113 = .ok (.iload_n 2, 1) := by decide +kernel
theorem dX3_conditionWord_114 : decode cX3_conditionWord 114 = .ok (.ldc 110, 2) := by decide +kernel
theorem dX3_conditionWord_116 : decode cX3_conditionWord 116 = .ok (.invokestatic 82, 3) := by decide +kernel
theorem dX3_conditionWord_119 : decode cX3_conditionWord 119 = .ok (.ifCond .eq 6, 3) := by decide +kernel
theorem dX3_conditionWord_122 : decode cX3_conditionWord 122 = .ok (.bipush (-6), 2) := by decide +kernel
theorem dX3_conditionWord_124 : decode cX3_conditionWord 124 = .ok (.ireturn, 1) := by decide +kernel
theorem dX3_conditionWord_125 : decode cX3_conditionWord 125 = .ok (.aload_n 0, 1) := by decide +kernel
theorem dX3_conditionWord_126 : decode cX3_conditionWord 126 = .ok (.iload_n 1, 1) := by decide +kernel
theorem dX3_conditionWord_127 : decode cX3_conditionWord 127 = .ok (.iload_n 2, 1) := by decide +kernel
theorem dX3_conditionWord_128 : decode cX3_conditionWord 128 = .ok (.ldc 112, 2) := by decide +kernel
theorem dX3_conditionWord_130 : decode cX3_conditionWord 130 = .ok (.invokestatic 82, 3) := by decide +kernel
theorem dX3_conditionWord_133 : decode cX3_conditionWord 133 = .ok (.ifCond .eq 8, 3) := by decide +kernel
theorem dX3_conditionWord_136 : decode cX3_conditionWord 136 = .ok (.bipush (-7), 2) := by decide +kernel
theorem dX3_conditionWord_138 : decode cX3_conditionWord 138 = .ok (.goto 5, 3) := by decide +kernel
theorem dX3_conditionWord_141 : decode cX3_conditionWord 141 = .ok (.bipush (-23), 2) := by decide +kernel
theorem dX3_conditionWord_143 : decode cX3_conditionWord 143 = .ok (.ireturn, 1) := by decide +kernel
theorem dX3_isWord_0 : decode cX3_isWord 0 = .ok (.iload_n 2, 1) := by decide +kernel
theorem dX3_isWord_1 : decode cX3_isWord 1 = .ok (.iload_n 1, 1) := by decide +kernel
theorem dX3_isWord_2 : decode cX3_isWord 2 = .ok (.isub, 1) := by decide +kernel
theorem dX3_isWord_3 : decode cX3_isWord 3 = .ok (.aload_n 3, 1) := by decide +kernel
theorem dX3_isWord_4 : decode cX3_isWord 4 = .ok (.invokevirtual 114, 3) := by decide +kernel
theorem dX3_isWord_7 : decode cX3_isWord 7 = .ok (.if_icmp .eq 5, 3) := by decide +kernel
theorem dX3_isWord_10 : decode cX3_isWord 10 = .ok (.iconst 0, 1) := by decide +kernel
theorem dX3_isWord_11 : decode cX3_isWord 11 = .ok (.ireturn, 1) := by decide +kernel
theorem dX3_isWord_12 : decode cX3_isWord 12 = .ok (.iload_n 1, 1) := by decide +kernel
theorem dX3_isWord_13 : decode cX3_isWord 13 = .ok (.istore 4, 2) := by decide +kernel
theorem dX3_isWord_15 : decode cX3_isWord 15 = .ok (.iload 4, 2) := by decide +kernel
theorem dX3_isWord_17 : decode cX3_isWord 17 = .ok (.iload_n 2, 1) := by decide +kernel
theorem dX3_isWord_18 : decode cX3_isWord 18 = .ok (.if_icmp .ge 26, 3) := by decide +kernel
theorem dX3_isWord_21 : decode cX3_isWord 21 = .ok (.aload_n 0, 1) := by decide +kernel
theorem dX3_isWord_22 : decode cX3_isWord 22 = .ok (.iload 4, 2) := by decide +kernel
theorem dX3_isWord_24 : decode cX3_isWord 24 = .ok (.baload, 1) := by decide +kernel
theorem dX3_isWord_25 : decode cX3_isWord 25 = .ok (.aload_n 3, 1) := by decide +kernel
theorem dX3_isWord_26 : decode cX3_isWord 26 = .ok (.iload 4, 2) := by decide +kernel
theorem dX3_isWord_28 : decode cX3_isWord 28 = .ok (.iload_n 1, 1) := by decide +kernel
theorem dX3_isWord_29 : decode cX3_isWord 29 = .ok (.isub, 1) := by decide +kernel
theorem dX3_isWord_30 : decode cX3_isWord 30 = .ok (.invokevirtual 120, 3) := by decide +kernel
theorem dX3_isWord_33 : decode cX3_isWord 33 = .ok (.if_icmp .eq 5, 3) := by decide +kernel
theorem dX3_isWord_36 : decode cX3_isWord 36 = .ok (.iconst 0, 1) := by decide +kernel
theorem dX3_isWord_37 : decode cX3_isWord 37 = .ok (.ireturn, 1) := by decide +kernel
theorem dX3_isWord_38 : decode cX3_isWord 38 = .ok (.iinc 4 1, 3) := by decide +kernel
theorem dX3_isWord_41 : decode cX3_isWord 41 = .ok (.goto (-26), 3) := by decide +kernel
theorem dX3_isWord_44 : decode cX3_isWord 44 = .ok (.iconst 1, 1) := by decide +kernel
theorem dX3_isWord_45 : decode cX3_isWord 45 = .ok (.ireturn, 1) := by decide +kernel
theorem dX3_readClause_0 : decode cX3_readClause 0 = .ok (.aload_n 0, 1) := by decide +kernel
theorem dX3_readClause_1 : decode cX3_readClause 1 = .ok (.getfield 25, 3) := by decide +kernel
theorem dX3_readClause_4 : decode cX3_readClause 4 = .ok (.aload_n 0, 1) := by decide +kernel
theorem dX3_readClause_5 : decode cX3_readClause 5 = .ok (.getfield 38, 3) := by decide +kernel
theorem dX3_readClause_8 : decode cX3_readClause 8 = .ok (.iaload, 1) := by decide +kernel
theorem dX3_readClause_9 : decode cX3_readClause 9 = .ok (.istore_n 2, 1) := by decide +kernel
theorem dX3_readClause_10 : decode cX3_readClause 10 = .ok (.iload_n 2, 1) := by decide +kernel
theorem dX3_readClause_11 : decode cX3_readClause 11 = .ok (.bipush (-17), 2) := by decide +kernel
theorem dX3_readClause_13 : decode cX3_readClause 13 = .ok (.if_icmp .eq 21, 3) := by decide +kernel
theorem dX3_readClause_16 : decode cX3_readClause 16 = .ok (.iload_n 2, 1) := by decide +kernel
theorem dX3_readClause_17 : decode cX3_readClause 17 = .ok (.bipush (-18), 2) := by decide +kernel
theorem dX3_readClause_19 : decode cX3_readClause 19 = .ok (.if_icmp .eq 15, 3) := by decide +kernel
theorem dX3_readClause_22 : decode cX3_readClause 22 = .ok (.iload_n 2, 1) := by decide +kernel
theorem dX3_readClause_23 : decode cX3_readClause 23 = .ok (.bipush (-19), 2) := by decide +kernel
theorem dX3_readClause_25 : decode cX3_readClause 25 = .ok (.if_icmp .eq 9, 3) := by decide +kernel
theorem dX3_readClause_28 : decode cX3_readClause 28 = .ok (.aload_n 0, 1) := by decide +kernel
theorem dX3_readClause_29 : decode cX3_readClause 29 = .ok (.iconst 1, 1) := by decide +kernel
theorem dX3_readClause_30 : decode cX3_readClause 30 = .ok (.invokevirtual 124, 3) := by decide +kernel
theorem dX3_readClause_33 : decode cX3_readClause 33 = .ok (.ireturn, 1) := by decide +kernel
theorem dX3_readClause_34 : decode cX3_readClause 34 = .ok (.iload_n 1, 1) := by decide +kernel
theorem dX3_readClause_35 : decode cX3_readClause 35 = .ok (.bipush 14, 2) := by decide +kernel
theorem dX3_readClause_37 : decode cX3_readClause 37 = .ok (.if_icmp .lt 9, 3) := by decide +kernel
theorem dX3_readClause_40 : decode cX3_readClause 40 = .ok (.aload_n 0, 1) := by decide +kernel
theorem dX3_readClause_41 : decode cX3_readClause 41 = .ok (.iconst 3, 1) := by decide +kernel
theorem dX3_readClause_42 : decode cX3_readClause 42 = .ok (.invokevirtual 124, 3) := by decide +kernel
theorem dX3_readClause_45 : decode cX3_readClause 45 = .ok (.ireturn, 1) := by decide +kernel
theorem dX3_readClause_46 : decode cX3_readClause 46 = .ok (.aload_n 0, 1) := by decide +kernel
theorem dX3_readClause_47 : decode cX3_readClause 47 = .ok (.dup, 1) := by decide +kernel
theorem dX3_readClause_48 : decode cX3_readClause 48 = .ok (.getfield 38, 3) := by decide +kernel
theorem dX3_readClause_51 : decode cX3_readClause 51 = .ok (.iconst 1, 1) := by decide +kernel
theorem dX3_readClause_52 : decode cX3_readClause 52 = .ok (.iadd, 1) := by decide +kernel
theorem dX3_readClause_53 : decode cX3_readClause 53 = .ok (.putfield 38, 3) := by decide +kernel
theorem dX3_readClause_56 : decode cX3_readClause 56 = .ok (.aload_n 0, 1) := by decide +kernel
theorem dX3_readClause_57 : decode cX3_readClause 57 = .ok (.getfield 12, 3) := by decide +kernel
theorem dX3_readClause_60 : decode cX3_readClause 60 = .ok (.getfield 127, 3) := by decide +kernel
theorem dX3_readClause_63 : decode cX3_readClause 63 = .ok (.iload_n 1, 1) := by decide +kernel
theorem dX3_readClause_64 : decode cX3_readClause 64 = .ok (.iload_n 2, 1) := by decide +kernel
theorem dX3_readClause_65 : decode cX3_readClause 65 = .ok (.iastore, 1) := by decide +kernel
theorem dX3_readClause_66 : decode cX3_readClause 66 = .ok (.aload_n 0, 1) := by decide +kernel
theorem dX3_readClause_67 : decode cX3_readClause 67 = .ok (.getfield 12, 3) := by decide +kernel
theorem dX3_readClause_70 : decode cX3_readClause 70 = .ok (.iload_n 1, 1) := by decide +kernel
theorem dX3_readClause_71 : decode cX3_readClause 71 = .ok (.iconst 1, 1) := by decide +kernel
theorem dX3_readClause_72 : decode cX3_readClause 72 = .ok (.iadd, 1) := by decide +kernel
theorem dX3_readClause_73 : decode cX3_readClause 73 = .ok (.putfield 41, 3) := by decide +kernel
theorem dX3_readClause_76 : decode cX3_readClause 76 = .ok (.iload_n 2, 1) := by decide +kernel
theorem dX3_readClause_77 : decode cX3_readClause 77 = .ok (.bipush (-17), 2) := by decide +kernel
theorem dX3_readClause_79 : decode cX3_readClause 79 = .ok (.if_icmp .ne 11, 3) := by decide +kernel
theorem dX3_readClause_82 : decode cX3_readClause 82 = .ok (.aload_n 0, 1) := by decide +kernel
theorem dX3_readClause_83 : decode cX3_readClause 83 = .ok (.iload_n 1, 1) := by decide +kernel
theorem dX3_readClause_84 : decode cX3_readClause 84 = .ok (.invokevirtual 128, 3) := by decide +kernel
theorem dX3_readClause_87 : decode cX3_readClause 87 = .ok (.goto 22, 3) := by decide +kernel
theorem dX3_readClause_90 : decode cX3_readClause 90 = .ok (.iload_n 2, 1) := by decide +kernel
theorem dX3_readClause_91 : decode cX3_readClause 91 = .ok (.bipush (-18), 2) := by decide +kernel
theorem dX3_readClause_93 : decode cX3_readClause 93 = .ok (.if_icmp .ne 11, 3) := by decide +kernel
theorem dX3_readClause_96 : decode cX3_readClause 96 = .ok (.aload_n 0, 1) := by decide +kernel
theorem dX3_readClause_97 : decode cX3_readClause 97 = .ok (.iload_n 1, 1) := by decide +kernel
theorem dX3_readClause_98 : decode cX3_readClause 98 = .ok (.invokevirtual 131, 3) := by decide +kernel
theorem dX3_readClause_101 : decode cX3_readClause 101 = .ok (.goto 8, 3) := by decide +kernel
theorem dX3_readClause_104 : decode cX3_readClause 104 = .ok (.aload_n 0, 1) := by decide +kernel
theorem dX3_readClause_105 : decode cX3_readClause 105 = .ok (.iload_n 1, 1) := by decide +kernel
theorem dX3_readClause_106 : decode cX3_readClause 106 = .ok (.invokevirtual 134, 3) := by decide +kernel
theorem dX3_readClause_109 : decode cX3_readClause 109 = .ok (.istore_n 3, 1) := by decide +kernel
theorem dX3_readClause_110 : decode cX3_readClause 110 = .ok (.iload_n 3, 1) := by decide +kernel
theorem dX3_readClause_111 : decode cX3_readClause 111 = .ok (.ifCond .eq 16, 3) := by decide +kernel
theorem dX3_readClause_114 : decode cX3_readClause 114 = .ok (.aload_n 0, 1) := by decide +kernel
theorem dX3_readClause_115 : decode cX3_readClause 115 = .ok (.bipush 59, 2) := by decide +kernel
theorem dX3_readClause_117 : decode cX3_readClause 117 = .ok (.invokevirtual 137, 3) := by decide +kernel
theorem dX3_readClause_120 : decode cX3_readClause 120 = .ok (.ifCond .eq 7, 3) := by decide +kernel
theorem dX3_readClause_123 : decode cX3_readClause 123 = .ok (.iconst 1, 1) := by decide +kernel
theorem dX3_readClause_124 : decode cX3_readClause 124 = .ok (.goto 4, 3) := by decide +kernel
theorem dX3_readClause_127 : decode cX3_readClause 127 = .ok (.iconst 0, 1) := by decide +kernel
theorem dX3_readClause_128 : decode cX3_readClause 128 = .ok (.ireturn, 1) := by decide +kernel
theorem dX3_readLeak_0 : decode cX3_readLeak 0 = .ok (.aload_n 0, 1) := by decide +kernel
theorem dX3_readLeak_1 : decode cX3_readLeak 1 = .ok (.iconst 0, 1) := by decide +kernel
theorem dX3_readLeak_2 : decode cX3_readLeak 2 = .ok (.bipush 7, 2) := by decide +kernel
theorem dX3_readLeak_4 : decode cX3_readLeak 4 = .ok (.invokevirtual 140, 3) := by decide +kernel
theorem dX3_readLeak_7 : decode cX3_readLeak 7 = .ok (.istore_n 2, 1) := by decide +kernel
theorem dX3_readLeak_8 : decode cX3_readLeak 8 = .ok (.iload_n 2, 1) := by decide +kernel
theorem dX3_readLeak_9 : decode cX3_readLeak 9 = .ok (.iconst (-1), 1) := by decide +kernel
theorem dX3_readLeak_10 : decode cX3_readLeak 10 = .ok (.if_icmp .ne 7, 3) := by decide +kernel
theorem dX3_readLeak_13 : decode cX3_readLeak 13 = .ok (.iconst (-1), 1) := by decide +kernel
theorem dX3_readLeak_14 : decode cX3_readLeak 14 = .ok (.goto 10, 3) := by decide +kernel
theorem dX3_readLeak_17 : decode cX3_readLeak 17 = .ok (.aload_n 0, 1) := by decide +kernel
theorem dX3_readLeak_18 : decode cX3_readLeak 18 = .ok (.iconst 0, 1) := by decide +kernel
theorem dX3_readLeak_19 : decode cX3_readLeak 19 = .ok (.bipush 99, 2) := by decide +kernel
theorem dX3_readLeak_21 : decode cX3_readLeak 21 = .ok (.invokevirtual 140, 3) := by decide +kernel
theorem dX3_readLeak_24 : decode cX3_readLeak 24 = .ok (.istore_n 3, 1) := by decide +kernel
theorem dX3_readLeak_25 : decode cX3_readLeak 25 = .ok (.iload_n 3, 1) := by decide +kernel
theorem dX3_readLeak_26 : decode cX3_readLeak 26 = .ok (.iconst (-1), 1) := by decide +kernel
theorem dX3_readLeak_27 : decode cX3_readLeak 27 = .ok (.if_icmp .eq 12, 3) := by decide +kernel
theorem dX3_readLeak_30 : decode cX3_readLeak 30 = .ok (.aload_n 0, 1) := by decide +kernel
theorem dX3_readLeak_31 : decode cX3_readLeak 31 = .ok (.bipush (-20), 2) := by decide +kernel
theorem dX3_readLeak_33 : decode cX3_readLeak 33 = .ok (.invokevirtual 137, 3) := by decide +kernel
theorem dX3_readLeak_36 : decode cX3_readLeak 36 = .ok (.ifCond .ne 5, 3) := by decide +kernel
theorem dX3_readLeak_39 : decode cX3_readLeak 39 = .ok (.iconst 0, 1) := by decide +kernel
theorem dX3_readLeak_40 : decode cX3_readLeak 40 = .ok (.ireturn, 1) := by decide +kernel
theorem dX3_readLeak_41 : decode cX3_readLeak 41 = .ok (.aload_n 0, 1) := by decide +kernel
theorem dX3_readLeak_42 : decode cX3_readLeak 42 = .ok (.iconst 0, 1) := by decide +kernel
theorem dX3_readLeak_43 : decode cX3_readLeak 43 = .ok (.bipush 99, 2) := by decide +kernel
theorem dX3_readLeak_45 : decode cX3_readLeak 45 = .ok (.invokevirtual 140, 3) := by decide +kernel
theorem dX3_readLeak_48 : decode cX3_readLeak 48 = .ok (.istore 4, 2) := by decide +kernel
theorem dX3_readLeak_50 : decode cX3_readLeak 50 = .ok (.aload_n 0, 1) := by decide +kernel
theorem dX3_readLeak_51 : decode cX3_readLeak 51 = .ok (.getfield 12, 3) := by decide +kernel
theorem dX3_readLeak_54 : decode cX3_readLeak 54 = .ok (.getfield 143, 3) := by decide +kernel
theorem dX3_readLeak_57 : decode cX3_readLeak 57 = .ok (.iload_n 1, 1) := by decide +kernel
theorem dX3_readLeak_58 : decode cX3_readLeak 58 = .ok (.iload_n 2, 1) := by decide +kernel
theorem dX3_readLeak_59 : decode cX3_readLeak 59 = .ok (.iastore, 1) := by decide +kernel
theorem dX3_readLeak_60 : decode cX3_readLeak 60 = .ok (.aload_n 0, 1) := by decide +kernel
theorem dX3_readLeak_61 : decode cX3_readLeak 61 = .ok (.getfield 12, 3) := by decide +kernel
theorem dX3_readLeak_64 : decode cX3_readLeak 64 = .ok (.getfield 146, 3) := by decide +kernel
theorem dX3_readLeak_67 : decode cX3_readLeak 67 = .ok (.iload_n 1, 1) := by decide +kernel
theorem dX3_readLeak_68 : decode cX3_readLeak 68 = .ok (.iload_n 3, 1) := by decide +kernel
theorem dX3_readLeak_69 : decode cX3_readLeak 69 = .ok (.iastore, 1) := by decide +kernel
theorem dX3_readLeak_70 : decode cX3_readLeak 70 = .ok (.aload_n 0, 1) := by decide +kernel
theorem dX3_readLeak_71 : decode cX3_readLeak 71 = .ok (.getfield 12, 3) := by decide +kernel
theorem dX3_readLeak_74 : decode cX3_readLeak 74 = .ok (.getfield 149, 3) := by decide +kernel
theorem dX3_readLeak_77 : decode cX3_readLeak 77 = .ok (.iload_n 1, 1) := by decide +kernel
theorem dX3_readLeak_78 : decode cX3_readLeak 78 = .ok (.iload 4, 2) := by decide +kernel
theorem dX3_readLeak_80 : decode cX3_readLeak 80 = .ok (.iastore, 1) := by decide +kernel
theorem dX3_readLeak_81 : decode cX3_readLeak 81 = .ok (.iload 4, 2) := by decide +kernel
theorem dX3_readLeak_83 : decode cX3_readLeak 83 = .ok (.iconst (-1), 1) := by decide +kernel
theorem dX3_readLeak_84 : decode cX3_readLeak 84 = .ok (.if_icmp .eq 7, 3) := by decide +kernel
theorem dX3_readLeak_87 : decode cX3_readLeak 87 = .ok (.iconst 1, 1) := by decide +kernel
theorem dX3_readLeak_88 : decode cX3_readLeak 88 = .ok (.goto 4, 3) := by decide +kernel
theorem dX3_readLeak_91 : decode cX3_readLeak 91 = .ok (.iconst 0, 1) := by decide +kernel
theorem dX3_readLeak_92 : decode cX3_readLeak 92 = .ok (.ireturn, 1) := by decide +kernel
theorem dX3_readSpark_0 : decode cX3_readSpark 0 = .ok (.aload_n 0, 1) := by decide +kernel
theorem dX3_readSpark_1 : decode cX3_readSpark 1 = .ok (.iconst 0, 1) := by decide +kernel
theorem dX3_readSpark_2 : decode cX3_readSpark 2 = .ok (.bipush 7, 2) := by decide +kernel
theorem dX3_readSpark_4 : decode cX3_readSpark 4 = .ok (.invokevirtual 140, 3) := by decide +kernel
theorem dX3_readSpark_7 : decode cX3_readSpark 7 = .ok (.istore_n 2, 1) := by decide +kernel
theorem dX3_readSpark_8 : decode cX3_readSpark 8 = .ok (.iload_n 2, 1) := by decide +kernel
theorem dX3_readSpark_9 : decode cX3_readSpark 9 = .ok (.iconst (-1), 1) := by decide +kernel
theorem dX3_readSpark_10 : decode cX3_readSpark 10 = .ok (.if_icmp .eq 12, 3) := by decide +kernel
theorem dX3_readSpark_13 : decode cX3_readSpark 13 = .ok (.aload_n 0, 1) := by decide +kernel
theorem dX3_readSpark_14 : decode cX3_readSpark 14 = .ok (.bipush (-21), 2) := by decide +kernel
theorem dX3_readSpark_16 : decode cX3_readSpark 16 = .ok (.invokevirtual 137, 3) := by decide +kernel
theorem dX3_readSpark_19 : decode cX3_readSpark 19 = .ok (.ifCond .ne 5, 3) := by decide +kernel
theorem dX3_readSpark_22 : decode cX3_readSpark 22 = .ok (.iconst 0, 1) := by decide +kernel
theorem dX3_readSpark_23 : decode cX3_readSpark 23 = .ok (.ireturn, 1) := by decide +kernel
theorem dX3_readSpark_24 : decode cX3_readSpark 24 = .ok (.aload_n 0, 1) := by decide +kernel
theorem dX3_readSpark_25 : decode cX3_readSpark 25 = .ok (.getfield 12, 3) := by decide +kernel
theorem dX3_readSpark_28 : decode cX3_readSpark 28 = .ok (.getfield 143, 3) := by decide +kernel
theorem dX3_readSpark_31 : decode cX3_readSpark 31 = .ok (.iload_n 1, 1) := by decide +kernel
theorem dX3_readSpark_32 : decode cX3_readSpark 32 = .ok (.iload_n 2, 1) := by decide +kernel
theorem dX3_readSpark_33 : decode cX3_readSpark 33 = .ok (.iastore, 1) := by decide +kernel
theorem dX3_readSpark_34 : decode cX3_readSpark 34 = .ok (.aload_n 0, 1) := by decide +kernel
theorem dX3_readSpark_35 : decode cX3_readSpark 35 = .ok (.getfield 12, 3) := by decide +kernel
theorem dX3_readSpark_38 : decode cX3_readSpark 38 = .ok (.getfield 152, 3) := by decide +kernel
theorem dX3_readSpark_41 : decode cX3_readSpark 41 = .ok (.iload_n 1, 1) := by decide +kernel
theorem dX3_readSpark_42 : decode cX3_readSpark 42 = .ok (.aload_n 0, 1) := by decide +kernel
theorem dX3_readSpark_43 : decode cX3_readSpark 43 = .ok (.getfield 12, 3) := by decide +kernel
theorem dX3_readSpark_46 : decode cX3_readSpark 46 = .ok (.getfield 44, 3) := by decide +kernel
theorem dX3_readSpark_49 : decode cX3_readSpark 49 = .ok (.iastore, 1) := by decide +kernel
theorem dX3_readSpark_50 : decode cX3_readSpark 50 = .ok (.aload_n 0, 1) := by decide +kernel
theorem dX3_readSpark_51 : decode cX3_readSpark 51 = .ok (.iconst 0, 1) := by decide +kernel
theorem dX3_readSpark_52 : decode cX3_readSpark 52 = .ok (.invokevirtual 155, 3) := by decide +kernel
theorem dX3_readSpark_55 : decode cX3_readSpark 55 = .ok (.istore_n 3, 1) := by decide +kernel
theorem dX3_readSpark_56 : decode cX3_readSpark 56 = .ok (.aload_n 0, 1) := by decide +kernel
theorem dX3_readSpark_57 : decode cX3_readSpark 57 = .ok (.getfield 12, 3) := by decide +kernel
theorem dX3_readSpark_60 : decode cX3_readSpark 60 = .ok (.getfield 158, 3) := by decide +kernel
theorem dX3_readSpark_63 : decode cX3_readSpark 63 = .ok (.iload_n 1, 1) := by decide +kernel
theorem dX3_readSpark_64 : decode cX3_readSpark 64 = .ok (.aload_n 0, 1) := by decide +kernel
theorem dX3_readSpark_65 : decode cX3_readSpark 65 = .ok (.getfield 12, 3) := by decide +kernel
theorem dX3_readSpark_68 : decode cX3_readSpark 68 = .ok (.getfield 44, 3) := by decide +kernel
theorem dX3_readSpark_71 : decode cX3_readSpark 71 = .ok (.iastore, 1) := by decide +kernel
theorem dX3_readSpark_72 : decode cX3_readSpark 72 = .ok (.iload_n 3, 1) := by decide +kernel
theorem dX3_readSpark_73 : decode cX3_readSpark 73 = .ok (.ireturn, 1) := by decide +kernel
theorem dX3_readSet_0 : decode cX3_readSet 0 = .ok (.aload_n 0, 1) := by decide +kernel
theorem dX3_readSet_1 : decode cX3_readSet 1 = .ok (.iconst 0, 1) := by decide +kernel
theorem dX3_readSet_2 : decode cX3_readSet 2 = .ok (.bipush 9, 2) := by decide +kernel
theorem dX3_readSet_4 : decode cX3_readSet 4 = .ok (.invokevirtual 140, 3) := by decide +kernel
theorem dX3_readSet_7 : decode cX3_readSet 7 = .ok (.istore_n 2, 1) := by decide +kernel
theorem dX3_readSet_8 : decode cX3_readSet 8 = .ok (.iload_n 2, 1) := by decide +kernel
theorem dX3_readSet_9 : decode cX3_readSet 9 = .ok (.iconst (-1), 1) := by decide +kernel
theorem dX3_readSet_10 : decode cX3_readSet 10 = .ok (.if_icmp .ne 5, 3) := by decide +kernel
theorem dX3_readSet_13 : decode cX3_readSet 13 = .ok (.iconst 0, 1) := by decide +kernel
theorem dX3_readSet_14 : decode cX3_readSet 14 = .ok (.ireturn, 1) := by decide +kernel
theorem dX3_readSet_15 : decode cX3_readSet 15 = .ok (.aload_n 0, 1) := by decide +kernel
theorem dX3_readSet_16 : decode cX3_readSet 16 = .ok (.getstatic 161, 3) := by decide +kernel
theorem dX3_readSet_19 : decode cX3_readSet 19 = .ok (.iload_n 2, 1) := by decide +kernel
theorem dX3_readSet_20 : decode cX3_readSet 20 = .ok (.iaload, 1) := by decide +kernel
theorem dX3_readSet_21 : decode cX3_readSet 21 = .ok (.getstatic 164, 3) := by decide +kernel
theorem dX3_readSet_24 : decode cX3_readSet 24 = .ok (.iload_n 2, 1) := by decide +kernel
theorem dX3_readSet_25 : decode cX3_readSet 25 = .ok (.iaload, 1) := by decide +kernel
theorem dX3_readSet_26 : decode cX3_readSet 26 = .ok (.invokevirtual 140, 3) := by decide +kernel
theorem dX3_readSet_29 : decode cX3_readSet 29 = .ok (.istore_n 3, 1) := by decide +kernel
theorem dX3_readSet_30 : decode cX3_readSet 30 = .ok (.aload_n 0, 1) := by decide +kernel
theorem dX3_readSet_31 : decode cX3_readSet 31 = .ok (.getfield 12, 3) := by decide +kernel
theorem dX3_readSet_34 : decode cX3_readSet 34 = .ok (.getfield 143, 3) := by decide +kernel
theorem dX3_readSet_37 : decode cX3_readSet 37 = .ok (.iload_n 1, 1) := by decide +kernel
theorem dX3_readSet_38 : decode cX3_readSet 38 = .ok (.iload_n 2, 1) := by decide +kernel
theorem dX3_readSet_39 : decode cX3_readSet 39 = .ok (.iastore, 1) := by decide +kernel
theorem dX3_readSet_40 : decode cX3_readSet 40 = .ok (.aload_n 0, 1) := by decide +kernel
theorem dX3_readSet_41 : decode cX3_readSet 41 = .ok (.getfield 12, 3) := by decide +kernel
theorem dX3_readSet_44 : decode cX3_readSet 44 = .ok (.getfield 146, 3) := by decide +kernel
theorem dX3_readSet_47 : decode cX3_readSet 47 = .ok (.iload_n 1, 1) := by decide +kernel
theorem dX3_readSet_48 : decode cX3_readSet 48 = .ok (.iload_n 3, 1) := by decide +kernel
theorem dX3_readSet_49 : decode cX3_readSet 49 = .ok (.iastore, 1) := by decide +kernel
theorem dX3_readSet_50 : decode cX3_readSet 50 = .ok (.iload_n 3, 1) := by decide +kernel
theorem dX3_readSet_51 : decode cX3_readSet 51 = .ok (.iconst (-1), 1) := by decide +kernel
theorem dX3_readSet_52 : decode cX3_readSet 52 = .ok (.if_icmp .eq 7, 3) := by decide +kernel
theorem dX3_readSet_55 : decode cX3_readSet 55 = .ok (.iconst 1, 1) := by decide +kernel
theorem dX3_readSet_56 : decode cX3_readSet 56 = .ok (.goto 4, 3) := by decide +kernel
theorem dX3_readSet_59 : decode cX3_readSet 59 = .ok (.iconst 0, 1) := by decide +kernel
theorem dX3_readSet_60 : decode cX3_readSet 60 = .ok (.ireturn, 1) := by decide +kernel
theorem dX3_readCondition_0 : decode cX3_readCondition 0 = .ok (.aload_n 0, 1) := by decide +kernel
theorem dX3_readCondition_1 : decode cX3_readCondition 1 = .ok (.iload_n 1, 1) := by decide +kernel
theorem dX3_readCondition_2 : decode cX3_readCondition 2 = .ok (.invokevirtual 167, 3) := by decide +kernel
theorem dX3_readCondition_5 : decode cX3_readCondition 5 = .ok (.istore_n 2, 1) := by decide +kernel
theorem dX3_readCondition_6 : decode cX3_readCondition 6 = .ok (.iconst 0, 1) := by decide +kernel
theorem dX3_readCondition_7 : decode cX3_readCondition 7 = .ok (.istore_n 3, 1) := by decide +kernel
theorem dX3_readCondition_8 : decode cX3_readCondition 8 = .ok (.iload_n 3, 1) := by decide +kernel
theorem dX3_readCondition_9 : decode cX3_readCondition 9 = .ok (.sipush 300, 3) := by decide +kernel
theorem dX3_readCondition_12 : decode cX3_readCondition 12 = .ok (.if_icmp .ge 45, 3) := by decide +kernel
theorem dX3_readCondition_15 : decode cX3_readCondition 15 = .ok (.iload_n 2, 1) := by decide +kernel
theorem dX3_readCondition_16 : decode cX3_readCondition 16 = .ok (.ifCond .eq 41, 3) := by decide +kernel
theorem dX3_readCondition_19 : decode cX3_readCondition 19 = .ok (.aload_n 0, 1) := by decide +kernel
theorem dX3_readCondition_20 : decode cX3_readCondition 20 = .ok (.bipush (-10), 2) := by decide +kernel
theorem dX3_readCondition_22 : decode cX3_readCondition 22 = .ok (.invokevirtual 170, 3) := by decide +kernel
theorem dX3_readCondition_25 : decode cX3_readCondition 25 = .ok (.ifCond .eq 32, 3) := by decide +kernel
theorem dX3_readCondition_28 : decode cX3_readCondition 28 = .ok (.aload_n 0, 1) := by decide +kernel
theorem dX3_readCondition_29 : decode cX3_readCondition 29 = .ok (.iload_n 1, 1) := by decide +kernel
theorem dX3_readCondition_30 : decode cX3_readCondition 30 = .ok (.invokevirtual 167, 3) := by decide +kernel
theorem dX3_readCondition_33 : decode cX3_readCondition 33 = .ok (.ifCond .eq 16, 3) := by decide +kernel
theorem dX3_readCondition_36 : decode cX3_readCondition 36 = .ok (.aload_n 0, 1) := by decide +kernel
theorem dX3_readCondition_37 : decode cX3_readCondition 37 = .ok (.bipush (-10), 2) := by decide +kernel
theorem dX3_readCondition_39 : decode cX3_readCondition 39 = .ok (.invokevirtual 173, 3) := by decide +kernel
theorem dX3_readCondition_42 : decode cX3_readCondition 42 = .ok (.ifCond .eq 7, 3) := by decide +kernel
theorem dX3_readCondition_45 : decode cX3_readCondition 45 = .ok (.iconst 1, 1) := by decide +kernel
theorem dX3_readCondition_46 : decode cX3_readCondition 46 = .ok (.goto 4, 3) := by decide +kernel
theorem dX3_readCondition_49 : decode cX3_readCondition 49 = .ok (.iconst 0, 1) := by decide +kernel
theorem dX3_readCondition_50 : decode cX3_readCondition 50 = .ok (.istore_n 2, 1) := by decide +kernel
theorem dX3_readCondition_51 : decode cX3_readCondition 51 = .ok (.iinc 3 1, 3) := by decide +kernel
theorem dX3_readCondition_54 : decode cX3_readCondition 54 = .ok (.goto (-46), 3) := by decide +kernel
theorem dX3_readCondition_57 : decode cX3_readCondition 57 = .ok (.iload_n 2, 1) := by decide +kernel
theorem dX3_readCondition_58 : decode cX3_readCondition 58 = .ok (.ireturn, 1) := by decide +kernel
theorem dX3_readAnds_0 : decode cX3_readAnds 0 = .ok (.aload_n 0, 1) := by decide +kernel
theorem dX3_readAnds_1 : decode cX3_readAnds 1 = .ok (.iload_n 1, 1) := by decide +kernel
theorem dX3_readAnds_2 : decode cX3_readAnds 2 = .ok (.invokevirtual 176, 3) := by decide +kernel
theorem dX3_readAnds_5 : decode cX3_readAnds 5 = .ok (.istore_n 2, 1) := by decide +kernel
theorem dX3_readAnds_6 : decode cX3_readAnds 6 = .ok (.iconst 0, 1) := by decide +kernel
theorem dX3_readAnds_7 : decode cX3_readAnds 7 = .ok (.istore_n 3, 1) := by decide +kernel
theorem dX3_readAnds_8 : decode cX3_readAnds 8 = .ok (.iload_n 3, 1) := by decide +kernel
theorem dX3_readAnds_9 : decode cX3_readAnds 9 = .ok (.sipush 300, 3) := by decide +kernel
theorem dX3_readAnds_12 : decode cX3_readAnds 12 = .ok (.if_icmp .ge 45, 3) := by decide +kernel
theorem dX3_readAnds_15 : decode cX3_readAnds 15 = .ok (.iload_n 2, 1) := by decide +kernel
theorem dX3_readAnds_16 : decode cX3_readAnds 16 = .ok (.ifCond .eq 41, 3) := by decide +kernel
theorem dX3_readAnds_19 : decode cX3_readAnds 19 = .ok (.aload_n 0, 1) := by decide +kernel
theorem dX3_readAnds_20 : decode cX3_readAnds 20 = .ok (.bipush (-9), 2) := by decide +kernel
theorem dX3_readAnds_22 : decode cX3_readAnds 22 = .ok (.invokevirtual 170, 3) := by decide +kernel
theorem dX3_readAnds_25 : decode cX3_readAnds 25 = .ok (.ifCond .eq 32, 3) := by decide +kernel
theorem dX3_readAnds_28 : decode cX3_readAnds 28 = .ok (.aload_n 0, 1) := by decide +kernel
theorem dX3_readAnds_29 : decode cX3_readAnds 29 = .ok (.iload_n 1, 1) := by decide +kernel
theorem dX3_readAnds_30 : decode cX3_readAnds 30 = .ok (.invokevirtual 176, 3) := by decide +kernel
theorem dX3_readAnds_33 : decode cX3_readAnds 33 = .ok (.ifCond .eq 16, 3) := by decide +kernel
theorem dX3_readAnds_36 : decode cX3_readAnds 36 = .ok (.aload_n 0, 1) := by decide +kernel
theorem dX3_readAnds_37 : decode cX3_readAnds 37 = .ok (.bipush (-9), 2) := by decide +kernel
theorem dX3_readAnds_39 : decode cX3_readAnds 39 = .ok (.invokevirtual 173, 3) := by decide +kernel
theorem dX3_readAnds_42 : decode cX3_readAnds 42 = .ok (.ifCond .eq 7, 3) := by decide +kernel
theorem dX3_readAnds_45 : decode cX3_readAnds 45 = .ok (.iconst 1, 1) := by decide +kernel
theorem dX3_readAnds_46 : decode cX3_readAnds 46 = .ok (.goto 4, 3) := by decide +kernel
theorem dX3_readAnds_49 : decode cX3_readAnds 49 = .ok (.iconst 0, 1) := by decide +kernel
theorem dX3_readAnds_50 : decode cX3_readAnds 50 = .ok (.istore_n 2, 1) := by decide +kernel
theorem dX3_readAnds_51 : decode cX3_readAnds 51 = .ok (.iinc 3 1, 3) := by decide +kernel
theorem dX3_readAnds_54 : decode cX3_readAnds 54 = .ok (.goto (-46), 3) := by decide +kernel
theorem dX3_readAnds_57 : decode cX3_readAnds 57 = .ok (.iload_n 2, 1) := by decide +kernel
theorem dX3_readAnds_58 : decode cX3_readAnds 58 = .ok (.ireturn, 1) := by decide +kernel
theorem dX3_readBasic_0 : decode cX3_readBasic 0 = .ok (.aload_n 0, 1) := by decide +kernel
theorem dX3_readBasic_1 : decode cX3_readBasic 1 = .ok (.getfield 25, 3) := by decide +kernel
theorem dX3_readBasic_4 : decode cX3_readBasic 4 = .ok (.aload_n 0, 1) := by decide +kernel
theorem dX3_readBasic_5 : decode cX3_readBasic 5 = .ok (.getfield 38, 3) := by decide +kernel
theorem dX3_readBasic_8 : decode cX3_readBasic 8 = .ok (.iaload, 1) := by decide +kernel
theorem dX3_readBasic_9 : decode cX3_readBasic 9 = .ok (.bipush (-8), 2) := by decide +kernel
theorem dX3_readBasic_11 : decode cX3_readBasic 11 = .ok (.if_icmp .ne 7, 3) := by decide +kernel
theorem dX3_readBasic_14 : decode cX3_readBasic 14 = .ok (.iconst 1, 1) := by decide +kernel
theorem dX3_readBasic_15 : decode cX3_readBasic 15 = .ok (.goto 4, 3) := by decide +kernel
theorem dX3_readBasic_18 : decode cX3_readBasic 18 = .ok (.iconst 0, 1) := by decide +kernel
theorem dX3_readBasic_19 : decode cX3_readBasic 19 = .ok (.istore_n 2, 1) := by decide +kernel
theorem dX3_readBasic_20 : decode cX3_readBasic 20 = .ok (.iload_n 2, 1) := by decide +kernel
theorem dX3_readBasic_21 : decode cX3_readBasic 21 = .ok (.ifCond .ne 17, 3) := by decide +kernel
theorem dX3_readBasic_24 : decode cX3_readBasic 24 = .ok (.aload_n 0, 1) := by decide +kernel
theorem dX3_readBasic_25 : decode cX3_readBasic 25 = .ok (.getfield 25, 3) := by decide +kernel
theorem dX3_readBasic_28 : decode cX3_readBasic 28 = .ok (.aload_n 0, 1) := by decide +kernel
theorem dX3_readBasic_29 : decode cX3_readBasic 29 = .ok (.getfield 38, 3) := by decide +kernel
theorem dX3_readBasic_32 : decode cX3_readBasic 32 = .ok (.iaload, 1) := by decide +kernel
theorem dX3_readBasic_33 : decode cX3_readBasic 33 = .ok (.bipush 91, 2) := by decide +kernel
theorem dX3_readBasic_35 : decode cX3_readBasic 35 = .ok (.if_icmp .ne 81, 3) := by decide +kernel
theorem dX3_readBasic_38 : decode cX3_readBasic 38 = .ok (.iload_n 1, 1) := by decide +kernel
theorem dX3_readBasic_39 : decode cX3_readBasic 39 = .ok (.bipush 6, 2) := by decide +kernel
theorem dX3_readBasic_41 : decode cX3_readBasic 41 = .ok (.if_icmp .lt 9, 3) := by decide +kernel
theorem dX3_readBasic_44 : decode cX3_readBasic 44 = .ok (.aload_n 0, 1) := by decide +kernel
theorem dX3_readBasic_45 : decode cX3_readBasic 45 = .ok (.iconst 3, 1) := by decide +kernel
theorem dX3_readBasic_46 : decode cX3_readBasic 46 = .ok (.invokevirtual 124, 3) := by decide +kernel
theorem dX3_readBasic_49 : decode cX3_readBasic 49 = .ok (.ireturn, 1) := by decide +kernel
theorem dX3_readBasic_50 : decode cX3_readBasic 50 = .ok (.aload_n 0, 1) := by decide +kernel
theorem dX3_readBasic_51 : decode cX3_readBasic 51 = .ok (.dup, 1) := by decide +kernel
theorem dX3_readBasic_52 : decode cX3_readBasic 52 = .ok (.getfield 38, 3) := by decide +kernel
theorem dX3_readBasic_55 : decode cX3_readBasic 55 = .ok (.iconst 1, 1) := by decide +kernel
theorem dX3_readBasic_56 : decode cX3_readBasic 56 = .ok (.iadd, 1) := by decide +kernel
theorem dX3_readBasic_57 : decode cX3_readBasic 57 = .ok (.putfield 38, 3) := by decide +kernel
theorem dX3_readBasic_60 : decode cX3_readBasic 60 = .ok (.iload_n 2, 1) := by decide +kernel
theorem dX3_readBasic_61 : decode cX3_readBasic 61 = .ok (.ifCond .eq 30, 3) := by decide +kernel
theorem dX3_readBasic_64 : decode cX3_readBasic 64 = .ok (.aload_n 0, 1) := by decide +kernel
theorem dX3_readBasic_65 : decode cX3_readBasic 65 = .ok (.iload_n 1, 1) := by decide +kernel
theorem dX3_readBasic_66 : decode cX3_readBasic 66 = .ok (.iconst 1, 1) := by decide +kernel
theorem dX3_readBasic_67 : decode cX3_readBasic 67 = .ok (.iadd, 1) := by decide +kernel
theorem dX3_readBasic_68 : decode cX3_readBasic 68 = .ok (.invokevirtual 176, 3) := by decide +kernel
theorem dX3_readBasic_71 : decode cX3_readBasic 71 = .ok (.ifCond .eq 16, 3) := by decide +kernel
theorem dX3_readBasic_74 : decode cX3_readBasic 74 = .ok (.aload_n 0, 1) := by decide +kernel
theorem dX3_readBasic_75 : decode cX3_readBasic 75 = .ok (.bipush (-8), 2) := by decide +kernel
theorem dX3_readBasic_77 : decode cX3_readBasic 77 = .ok (.invokevirtual 173, 3) := by decide +kernel
theorem dX3_readBasic_80 : decode cX3_readBasic 80 = .ok (.ifCond .eq 7, 3) := by decide +kernel
theorem dX3_readBasic_83 : decode cX3_readBasic 83 = .ok (.iconst 1, 1) := by decide +kernel
theorem dX3_readBasic_84 : decode cX3_readBasic 84 = .ok (.goto 31, 3) := by decide +kernel
theorem dX3_readBasic_87 : decode cX3_readBasic 87 = .ok (.iconst 0, 1) := by decide +kernel
theorem dX3_readBasic_88 : decode cX3_readBasic 88 = .ok (.goto 27, 3) := by decide +kernel
theorem dX3_readBasic_91 : decode cX3_readBasic 91 = .ok (.aload_n 0, 1) := by decide +kernel
theorem dX3_readBasic_92 : decode cX3_readBasic 92 = .ok (.iload_n 1, 1) := by decide +kernel
theorem dX3_readBasic_93 : decode cX3_readBasic 93 = .ok (.iconst 1, 1) := by decide +kernel
theorem dX3_readBasic_94 : decode cX3_readBasic 94 = .ok (.iadd, 1) := by decide +kernel
theorem dX3_readBasic_95 : decode cX3_readBasic 95 = .ok (.invokevirtual 155, 3) := by decide +kernel
theorem dX3_readBasic_98 : decode cX3_readBasic 98 = .ok (.ifCond .eq 16, 3) := by decide +kernel
theorem dX3_readBasic_101 : decode cX3_readBasic 101 = .ok (.aload_n 0, 1) := by decide +kernel
theorem dX3_readBasic_102 : decode cX3_readBasic 102 = .ok (.bipush 93, 2) := by decide +kernel
theorem dX3_readBasic_104 : decode cX3_readBasic 104 = .ok (.invokevirtual 137, 3) := by decide +kernel
theorem dX3_readBasic_107 : decode cX3_readBasic 107 = .ok (.ifCond .eq 7, 3) := by decide +kernel
theorem dX3_readBasic_110 : decode cX3_readBasic 110 = .ok (.iconst 1, 1) := by decide +kernel
theorem dX3_readBasic_111 : decode cX3_readBasic 111 = .ok (.goto 4, 3) := by decide +kernel
theorem dX3_readBasic_114 : decode cX3_readBasic 114 = .ok (.iconst 0, 1) := by decide +kernel
theorem dX3_readBasic_115 : decode cX3_readBasic 115 = .ok (.ireturn, 1) := by decide +kernel
theorem dX3_readBasic_116 : decode cX3_readBasic 116 = .ok (.aload_n 0, 1) := by decide +kernel
theorem dX3_readBasic_117 : decode cX3_readBasic 117 = .ok (.iload_n 1, 1) := by decide +kernel
theorem dX3_readBasic_118 : decode cX3_readBasic 118 = .ok (.invokevirtual 179, 3) := by decide +kernel
theorem dX3_readBasic_121 : decode cX3_readBasic 121 = .ok (.ifCond .ne 5, 3) := by decide +kernel
theorem dX3_readBasic_124 : decode cX3_readBasic 124 = .ok (.iconst 0, 1) := by decide +kernel
theorem dX3_readBasic_125 : decode cX3_readBasic 125 = .ok (.ireturn, 1) := by decide +kernel
theorem dX3_readBasic_126 : decode cX3_readBasic 126 = .ok (.aload_n 0, 1) := by decide +kernel
theorem dX3_readBasic_127 : decode cX3_readBasic 127 = .ok (.getfield 25, 3) := by decide +kernel
theorem dX3_readBasic_130 : decode cX3_readBasic 130 = .ok (.aload_n 0, 1) := by decide +kernel
theorem dX3_readBasic_131 : decode cX3_readBasic 131 = .ok (.getfield 38, 3) := by decide +kernel
theorem dX3_readBasic_134 : decode cX3_readBasic 134 = .ok (.iaload, 1) := by decide +kernel
theorem dX3_readBasic_135 : decode cX3_readBasic 135 = .ok (.bipush 60, 2) := by decide +kernel
theorem dX3_readBasic_137 : decode cX3_readBasic 137 = .ok (.if_icmp .ne 8, 3) := by decide +kernel
theorem dX3_readBasic_140 : decode cX3_readBasic 140 = .ok (.bipush (-11), 2) := by decide +kernel
theorem dX3_readBasic_142 : decode cX3_readBasic 142 = .ok (.goto 24, 3) := by decide +kernel
theorem dX3_readBasic_145 : decode cX3_readBasic 145 = .ok (.aload_n 0, 1) := by decide +kernel
theorem dX3_readBasic_146 : decode cX3_readBasic 146 = .ok (.getfield 25, 3) := by decide +kernel
theorem dX3_readBasic_149 : decode cX3_readBasic 149 = .ok (.aload_n 0, 1) := by decide +kernel
theorem dX3_readBasic_150 : decode cX3_readBasic 150 = .ok (.getfield 38, 3) := by decide +kernel
theorem dX3_readBasic_153 : decode cX3_readBasic 153 = .ok (.iaload, 1) := by decide +kernel
theorem dX3_readBasic_154 : decode cX3_readBasic 154 = .ok (.bipush 62, 2) := by decide +kernel
theorem dX3_readBasic_156 : decode cX3_readBasic 156 = .ok (.if_icmp .ne 8, 3) := by decide +kernel
theorem dX3_readBasic_159 : decode cX3_readBasic 159 = .ok (.bipush (-12), 2) := by decide +kernel
theorem dX3_readBasic_161 : decode cX3_readBasic 161 = .ok (.goto 5, 3) := by decide +kernel
theorem dX3_readBasic_164 : decode cX3_readBasic 164 = .ok (.bipush (-13), 2) := by decide +kernel
theorem dX3_readBasic_166 : decode cX3_readBasic 166 = .ok (.istore_n 3, 1) := by decide +kernel
theorem dX3_readBasic_167 : decode cX3_readBasic 167 = .ok (.iload_n 3, 1) := by decide +kernel
theorem dX3_readBasic_168 : decode cX3_readBasic 168 = .ok (.bipush (-13), 2) := by decide +kernel
theorem dX3_readBasic_170 : decode cX3_readBasic 170 = .ok (.if_icmp .ne 23, 3) := by decide +kernel
theorem dX3_readBasic_173 : decode cX3_readBasic 173 = .ok (.aload_n 0, 1) := by decide +kernel
theorem dX3_readBasic_174 : decode cX3_readBasic 174 = .ok (.getfield 25, 3) := by decide +kernel
theorem dX3_readBasic_177 : decode cX3_readBasic 177 = .ok (.aload_n 0, 1) := by decide +kernel
theorem dX3_readBasic_178 : decode cX3_readBasic 178 = .ok (.getfield 38, 3) := by decide +kernel
theorem dX3_readBasic_181 : decode cX3_readBasic 181 = .ok (.iaload, 1) := by decide +kernel
theorem dX3_readBasic_182 : decode cX3_readBasic 182 = .ok (.bipush 61, 2) := by decide +kernel
theorem dX3_readBasic_184 : decode cX3_readBasic 184 = .ok (.if_icmp .eq 9, 3) := by decide +kernel
theorem dX3_readBasic_187 : decode cX3_readBasic 187 = .ok (.aload_n 0, 1) := by decide +kernel
theorem dX3_readBasic_188 : decode cX3_readBasic 188 = .ok (.iconst 1, 1) := by decide +kernel
theorem dX3_readBasic_189 : decode cX3_readBasic 189 = .ok (.invokevirtual 124, 3) := by decide +kernel
theorem dX3_readBasic_192 : decode cX3_readBasic 192 = .ok (.ireturn, 1) := by decide +kernel
theorem dX3_readBasic_193 : decode cX3_readBasic 193 = .ok (.aload_n 0, 1) := by decide +kernel
theorem dX3_readBasic_194 : decode cX3_readBasic 194 = .ok (.dup, 1) := by decide +kernel
theorem dX3_readBasic_195 : decode cX3_readBasic 195 = .ok (.getfield 38, 3) := by decide +kernel
theorem dX3_readBasic_198 : decode cX3_readBasic 198 = .ok (.iconst 1, 1) := by decide +kernel
theorem dX3_readBasic_199 : decode cX3_readBasic 199 = .ok (.iadd, 1) := by decide +kernel
theorem dX3_readBasic_200 : decode cX3_readBasic 200 = .ok (.putfield 38, 3) := by decide +kernel
theorem dX3_readBasic_203 : decode cX3_readBasic 203 = .ok (.aload_n 0, 1) := by decide +kernel
theorem dX3_readBasic_204 : decode cX3_readBasic 204 = .ok (.iload_n 1, 1) := by decide +kernel
theorem dX3_readBasic_205 : decode cX3_readBasic 205 = .ok (.invokevirtual 179, 3) := by decide +kernel
theorem dX3_readBasic_208 : decode cX3_readBasic 208 = .ok (.ifCond .eq 15, 3) := by decide +kernel
theorem dX3_readBasic_211 : decode cX3_readBasic 211 = .ok (.aload_n 0, 1) := by decide +kernel
theorem dX3_readBasic_212 : decode cX3_readBasic 212 = .ok (.iload_n 3, 1) := by decide +kernel
theorem dX3_readBasic_213 : decode cX3_readBasic 213 = .ok (.invokevirtual 173, 3) := by decide +kernel
theorem dX3_readBasic_216 : decode cX3_readBasic 216 = .ok (.ifCond .eq 7, 3) := by decide +kernel
theorem dX3_readBasic_219 : decode cX3_readBasic 219 = .ok (.iconst 1, 1) := by decide +kernel
theorem dX3_readBasic_220 : decode cX3_readBasic 220 = .ok (.goto 4, 3) := by decide +kernel
theorem dX3_readBasic_223 : decode cX3_readBasic 223 = .ok (.iconst 0, 1) := by decide +kernel
theorem dX3_readBasic_224 : decode cX3_readBasic 224 = .ok (.ireturn, 1) := by decide +kernel
theorem dX3_readSum_0 : decode cX3_readSum 0 = .ok (.aload_n 0, 1) := by decide +kernel
theorem dX3_readSum_1 : decode cX3_readSum 1 = .ok (.iload_n 1, 1) := by decide +kernel
theorem dX3_readSum_2 : decode cX3_readSum 2 = .ok (.invokevirtual 182, 3) := by decide +kernel
theorem dX3_readSum_5 : decode cX3_readSum 5 = .ok (.istore_n 2, 1) := by decide +kernel
theorem dX3_readSum_6 : decode cX3_readSum 6 = .ok (.iconst 0, 1) := by decide +kernel
theorem dX3_readSum_7 : decode cX3_readSum 7 = .ok (.istore_n 3, 1) := by decide +kernel
theorem dX3_readSum_8 : decode cX3_readSum 8 = .ok (.iload_n 3, 1) := by decide +kernel
theorem dX3_readSum_9 : decode cX3_readSum 9 = .ok (.sipush 300, 3) := by decide +kernel
theorem dX3_readSum_12 : decode cX3_readSum 12 = .ok (.if_icmp .ge 97, 3) := by decide +kernel
theorem dX3_readSum_15 : decode cX3_readSum 15 = .ok (.iload_n 2, 1) := by decide +kernel
theorem dX3_readSum_16 : decode cX3_readSum 16 = .ok (.ifCond .eq 93, 3) := by decide +kernel
theorem dX3_readSum_19 : decode cX3_readSum 19 = .ok (.aload_n 0, 1) := by decide +kernel
theorem dX3_readSum_20 : decode cX3_readSum 20 = .ok (.getfield 25, 3) := by decide +kernel
theorem dX3_readSum_23 : decode cX3_readSum 23 = .ok (.aload_n 0, 1) := by decide +kernel
theorem dX3_readSum_24 : decode cX3_readSum 24 = .ok (.getfield 38, 3) := by decide +kernel
theorem dX3_readSum_27 : decode cX3_readSum 27 = .ok (.iaload, 1) := by decide +kernel
theorem dX3_readSum_28 : decode cX3_readSum 28 = .ok (.bipush 43, 2) := by decide +kernel
theorem dX3_readSum_30 : decode cX3_readSum 30 = .ok (.if_icmp .eq 17, 3) := by decide +kernel
theorem dX3_readSum_33 : decode cX3_readSum 33 = .ok (.aload_n 0, 1) := by decide +kernel
theorem dX3_readSum_34 : decode cX3_readSum 34 = .ok (.getfield 25, 3) := by decide +kernel
theorem dX3_readSum_37 : decode cX3_readSum 37 = .ok (.aload_n 0, 1) := by decide +kernel
theorem dX3_readSum_38 : decode cX3_readSum 38 = .ok (.getfield 38, 3) := by decide +kernel
theorem dX3_readSum_41 : decode cX3_readSum 41 = .ok (.iaload, 1) := by decide +kernel
theorem dX3_readSum_42 : decode cX3_readSum 42 = .ok (.bipush 45, 2) := by decide +kernel
theorem dX3_readSum_44 : decode cX3_readSum 44 = .ok (.if_icmp .ne 65, 3) := by decide +kernel
theorem dX3_readSum_47 : decode cX3_readSum 47 = .ok (.aload_n 0, 1) := by decide +kernel
theorem dX3_readSum_48 : decode cX3_readSum 48 = .ok (.getfield 25, 3) := by decide +kernel
theorem dX3_readSum_51 : decode cX3_readSum 51 = .ok (.aload_n 0, 1) := by decide +kernel
theorem dX3_readSum_52 : decode cX3_readSum 52 = .ok (.getfield 38, 3) := by decide +kernel
theorem dX3_readSum_55 : decode cX3_readSum 55 = .ok (.iaload, 1) := by decide +kernel
theorem dX3_readSum_56 : decode cX3_readSum 56 = .ok (.bipush 43, 2) := by decide +kernel
theorem dX3_readSum_58 : decode cX3_readSum 58 = .ok (.if_icmp .ne 8, 3) := by decide +kernel
theorem dX3_readSum_61 : decode cX3_readSum 61 = .ok (.bipush (-14), 2) := by decide +kernel
theorem dX3_readSum_63 : decode cX3_readSum 63 = .ok (.goto 5, 3) := by decide +kernel
theorem dX3_readSum_66 : decode cX3_readSum 66 = .ok (.bipush (-15), 2) := by decide +kernel
theorem dX3_readSum_68 : decode cX3_readSum 68 = .ok (.istore 4, 2) := by decide +kernel
theorem dX3_readSum_70 : decode cX3_readSum 70 = .ok (.aload_n 0, 1) := by decide +kernel
theorem dX3_readSum_71 : decode cX3_readSum 71 = .ok (.dup, 1) := by decide +kernel
theorem dX3_readSum_72 : decode cX3_readSum 72 = .ok (.getfield 38, 3) := by decide +kernel
theorem dX3_readSum_75 : decode cX3_readSum 75 = .ok (.iconst 1, 1) := by decide +kernel
theorem dX3_readSum_76 : decode cX3_readSum 76 = .ok (.iadd, 1) := by decide +kernel
theorem dX3_readSum_77 : decode cX3_readSum 77 = .ok (.putfield 38, 3) := by decide +kernel
theorem dX3_readSum_80 : decode cX3_readSum 80 = .ok (.aload_n 0, 1) := by decide +kernel
theorem dX3_readSum_81 : decode cX3_readSum 81 = .ok (.iload_n 1, 1) := by decide +kernel
theorem dX3_readSum_82 : decode cX3_readSum 82 = .ok (.invokevirtual 182, 3) := by decide +kernel
theorem dX3_readSum_85 : decode cX3_readSum 85 = .ok (.ifCond .eq 16, 3) := by decide +kernel
theorem dX3_readSum_88 : decode cX3_readSum 88 = .ok (.aload_n 0, 1) := by decide +kernel
theorem dX3_readSum_89 : decode cX3_readSum 89 = .ok (.iload 4, 2) := by decide +kernel
theorem dX3_readSum_91 : decode cX3_readSum 91 = .ok (.invokevirtual 173, 3) := by decide +kernel
theorem dX3_readSum_94 : decode cX3_readSum 94 = .ok (.ifCond .eq 7, 3) := by decide +kernel
theorem dX3_readSum_97 : decode cX3_readSum 97 = .ok (.iconst 1, 1) := by decide +kernel
theorem dX3_readSum_98 : decode cX3_readSum 98 = .ok (.goto 4, 3) := by decide +kernel
theorem dX3_readSum_101 : decode cX3_readSum 101 = .ok (.iconst 0, 1) := by decide +kernel
theorem dX3_readSum_102 : decode cX3_readSum 102 = .ok (.istore_n 2, 1) := by decide +kernel
theorem dX3_readSum_103 : decode cX3_readSum 103 = .ok (.iinc 3 1, 3) := by decide +kernel
theorem dX3_readSum_106 : decode cX3_readSum 106 = .ok (.goto (-98), 3) := by decide +kernel
theorem dX3_readSum_109 : decode cX3_readSum 109 = .ok (.iload_n 2, 1) := by decide +kernel
theorem dX3_readSum_110 : decode cX3_readSum 110 = .ok (.ireturn, 1) := by decide +kernel
theorem dX3_readProduct_0 : decode cX3_readProduct 0 = .ok (.aload_n 0, 1) := by decide +kernel
theorem dX3_readProduct_1 : decode cX3_readProduct 1 = .ok (.iload_n 1, 1) := by decide +kernel
theorem dX3_readProduct_2 : decode cX3_readProduct 2 = .ok (.invokevirtual 185, 3) := by decide +kernel
theorem dX3_readProduct_5 : decode cX3_readProduct 5 = .ok (.istore_n 2, 1) := by decide +kernel
theorem dX3_readProduct_6 : decode cX3_readProduct 6 = .ok (.iconst 0, 1) := by decide +kernel
theorem dX3_readProduct_7 : decode cX3_readProduct 7 = .ok (.istore_n 3, 1) := by decide +kernel
theorem dX3_readProduct_8 : decode cX3_readProduct 8 = .ok (.iload_n 3, 1) := by decide +kernel
theorem dX3_readProduct_9 : decode cX3_readProduct 9 = .ok (.sipush 300, 3) := by decide +kernel
theorem dX3_readProduct_12 : decode cX3_readProduct 12 = .ok (.if_icmp .ge 45, 3) := by decide +kernel
theorem dX3_readProduct_15 : decode cX3_readProduct 15 = .ok (.iload_n 2, 1) := by decide +kernel
theorem dX3_readProduct_16 : decode cX3_readProduct 16 = .ok (.ifCond .eq 41, 3) := by decide +kernel
theorem dX3_readProduct_19 : decode cX3_readProduct 19 = .ok (.aload_n 0, 1) := by decide +kernel
theorem dX3_readProduct_20 : decode cX3_readProduct 20 = .ok (.bipush 42, 2) := by decide +kernel
theorem dX3_readProduct_22 : decode cX3_readProduct 22 = .ok (.invokevirtual 170, 3) := by decide +kernel
theorem dX3_readProduct_25 : decode cX3_readProduct 25 = .ok (.ifCond .eq 32, 3) := by decide +kernel
theorem dX3_readProduct_28 : decode cX3_readProduct 28 = .ok (.aload_n 0, 1) := by decide +kernel
theorem dX3_readProduct_29 : decode cX3_readProduct 29 = .ok (.iload_n 1, 1) := by decide +kernel
theorem dX3_readProduct_30 : decode cX3_readProduct 30 = .ok (.invokevirtual 185, 3) := by decide +kernel
theorem dX3_readProduct_33 : decode cX3_readProduct 33 = .ok (.ifCond .eq 16, 3) := by decide +kernel
theorem dX3_readProduct_36 : decode cX3_readProduct 36 = .ok (.aload_n 0, 1) := by decide +kernel
theorem dX3_readProduct_37 : decode cX3_readProduct 37 = .ok (.bipush (-16), 2) := by decide +kernel
theorem dX3_readProduct_39 : decode cX3_readProduct 39 = .ok (.invokevirtual 173, 3) := by decide +kernel
theorem dX3_readProduct_42 : decode cX3_readProduct 42 = .ok (.ifCond .eq 7, 3) := by decide +kernel
theorem dX3_readProduct_45 : decode cX3_readProduct 45 = .ok (.iconst 1, 1) := by decide +kernel
theorem dX3_readProduct_46 : decode cX3_readProduct 46 = .ok (.goto 4, 3) := by decide +kernel
theorem dX3_readProduct_49 : decode cX3_readProduct 49 = .ok (.iconst 0, 1) := by decide +kernel
theorem dX3_readProduct_50 : decode cX3_readProduct 50 = .ok (.istore_n 2, 1) := by decide +kernel
theorem dX3_readProduct_51 : decode cX3_readProduct 51 = .ok (.iinc 3 1, 3) := by decide +kernel
theorem dX3_readProduct_54 : decode cX3_readProduct 54 = .ok (.goto (-46), 3) := by decide +kernel
theorem dX3_readProduct_57 : decode cX3_readProduct 57 = .ok (.iload_n 2, 1) := by decide +kernel
theorem dX3_readProduct_58 : decode cX3_readProduct 58 = .ok (.ireturn, 1) := by decide +kernel
theorem dX3_readUnit_0 : decode cX3_readUnit 0 = .ok (.aload_n 0, 1) := by decide +kernel
theorem dX3_readUnit_1 : decode cX3_readUnit 1 = .ok (.getfield 25, 3) := by decide +kernel
theorem dX3_readUnit_4 : decode cX3_readUnit 4 = .ok (.aload_n 0, 1) := by decide +kernel
theorem dX3_readUnit_5 : decode cX3_readUnit 5 = .ok (.getfield 38, 3) := by decide +kernel
theorem dX3_readUnit_8 : decode cX3_readUnit 8 = .ok (.iaload, 1) := by decide +kernel
theorem dX3_readUnit_9 : decode cX3_readUnit 9 = .ok (.istore_n 2, 1) := by decide +kernel
theorem dX3_readUnit_10 : decode cX3_readUnit 10 = .ok (.iload_n 2, 1) := by decide +kernel
theorem dX3_readUnit_11 : decode cX3_readUnit 11 = .ok (.bipush (-22), 2) := by decide +kernel
theorem dX3_readUnit_13 : decode cX3_readUnit 13 = .ok (.if_icmp .ne 31, 3) := by decide +kernel
theorem dX3_readUnit_16 : decode cX3_readUnit 16 = .ok (.aload_n 0, 1) := by decide +kernel
theorem dX3_readUnit_17 : decode cX3_readUnit 17 = .ok (.iconst 0, 1) := by decide +kernel
theorem dX3_readUnit_18 : decode cX3_readUnit 18 = .ok (.sipush 9999, 3) := by decide +kernel
theorem dX3_readUnit_21 : decode cX3_readUnit 21 = .ok (.invokevirtual 140, 3) := by decide +kernel
theorem dX3_readUnit_24 : decode cX3_readUnit 24 = .ok (.istore_n 3, 1) := by decide +kernel
theorem dX3_readUnit_25 : decode cX3_readUnit 25 = .ok (.iload_n 3, 1) := by decide +kernel
theorem dX3_readUnit_26 : decode cX3_readUnit 26 = .ok (.iconst (-1), 1) := by decide +kernel
theorem dX3_readUnit_27 : decode cX3_readUnit 27 = .ok (.if_icmp .eq 15, 3) := by decide +kernel
theorem dX3_readUnit_30 : decode cX3_readUnit 30 = .ok (.aload_n 0, 1) := by decide +kernel
theorem dX3_readUnit_31 : decode cX3_readUnit 31 = .ok (.iload_n 3, 1) := by decide +kernel
theorem dX3_readUnit_32 : decode cX3_readUnit 32 = .ok (.invokevirtual 173, 3) := by decide +kernel
theorem dX3_readUnit_35 : decode cX3_readUnit 35 = .ok (.ifCond .eq 7, 3) := by decide +kernel
theorem dX3_readUnit_38 : decode cX3_readUnit 38 = .ok (.iconst 1, 1) := by decide +kernel
theorem dX3_readUnit_39 : decode cX3_readUnit 39 = .ok (.goto 4, 3) := by decide +kernel
theorem dX3_readUnit_42 : decode cX3_readUnit 42 = .ok (.iconst 0, 1) := by decide +kernel
theorem dX3_readUnit_43 : decode cX3_readUnit 43 = .ok (.ireturn, 1) := by decide +kernel
theorem dX3_readUnit_44 : decode cX3_readUnit 44 = .ok (.iload_n 2, 1) := by decide +kernel
theorem dX3_readUnit_45 : decode cX3_readUnit 45 = .ok (.iconst (-1), 1) := by decide +kernel
theorem dX3_readUnit_46 : decode cX3_readUnit 46 = .ok (.if_icmp .gt 25, 3) := by decide +kernel
theorem dX3_readUnit_49 : decode cX3_readUnit 49 = .ok (.iload_n 2, 1) := by decide +kernel
theorem dX3_readUnit_50 : decode cX3_readUnit 50 = .ok (.bipush (-7), 2) := by decide +kernel
theorem dX3_readUnit_52 : decode cX3_readUnit 52 = .ok (.if_icmp .lt 19, 3) := by decide +kernel
theorem dX3_readUnit_55 : decode cX3_readUnit 55 = .ok (.aload_n 0, 1) := by decide +kernel
theorem dX3_readUnit_56 : decode cX3_readUnit 56 = .ok (.dup, 1) := by decide +kernel
theorem dX3_readUnit_57 : decode cX3_readUnit 57 = .ok (.getfield 38, 3) := by decide +kernel
theorem dX3_readUnit_60 : decode cX3_readUnit 60 = .ok (.iconst 1, 1) := by decide +kernel
theorem dX3_readUnit_61 : decode cX3_readUnit 61 = .ok (.iadd, 1) := by decide +kernel
theorem dX3_readUnit_62 : decode cX3_readUnit 62 = .ok (.putfield 38, 3) := by decide +kernel
theorem dX3_readUnit_65 : decode cX3_readUnit 65 = .ok (.aload_n 0, 1) := by decide +kernel
theorem dX3_readUnit_66 : decode cX3_readUnit 66 = .ok (.iload_n 2, 1) := by decide +kernel
theorem dX3_readUnit_67 : decode cX3_readUnit 67 = .ok (.invokevirtual 173, 3) := by decide +kernel
theorem dX3_readUnit_70 : decode cX3_readUnit 70 = .ok (.ireturn, 1) := by decide +kernel
theorem dX3_readUnit_71 : decode cX3_readUnit 71 = .ok (.iload_n 2, 1) := by decide +kernel
theorem dX3_readUnit_72 : decode cX3_readUnit 72 = .ok (.bipush 40, 2) := by decide +kernel
theorem dX3_readUnit_74 : decode cX3_readUnit 74 = .ok (.if_icmp .eq 9, 3) := by decide +kernel
theorem dX3_readUnit_77 : decode cX3_readUnit 77 = .ok (.aload_n 0, 1) := by decide +kernel
theorem dX3_readUnit_78 : decode cX3_readUnit 78 = .ok (.iconst 1, 1) := by decide +kernel
theorem dX3_readUnit_79 : decode cX3_readUnit 79 = .ok (.invokevirtual 124, 3) := by decide +kernel
theorem dX3_readUnit_82 : decode cX3_readUnit 82 = .ok (.ireturn, 1) := by decide +kernel
theorem dX3_readUnit_83 : decode cX3_readUnit 83 = .ok (.iload_n 1, 1) := by decide +kernel
theorem dX3_readUnit_84 : decode cX3_readUnit 84 = .ok (.bipush 6, 2) := by decide +kernel
theorem dX3_readUnit_86 : decode cX3_readUnit 86 = .ok (.if_icmp .lt 9, 3) := by decide +kernel
theorem dX3_readUnit_89 : decode cX3_readUnit 89 = .ok (.aload_n 0, 1) := by decide +kernel
theorem dX3_readUnit_90 : decode cX3_readUnit 90 = .ok (.iconst 3, 1) := by decide +kernel
theorem dX3_readUnit_91 : decode cX3_readUnit 91 = .ok (.invokevirtual 124, 3) := by decide +kernel
theorem dX3_readUnit_94 : decode cX3_readUnit 94 = .ok (.ireturn, 1) := by decide +kernel
theorem dX3_readUnit_95 : decode cX3_readUnit 95 = .ok (.aload_n 0, 1) := by decide +kernel
theorem dX3_readUnit_96 : decode cX3_readUnit 96 = .ok (.dup, 1) := by decide +kernel
theorem dX3_readUnit_97 : decode cX3_readUnit 97 = .ok (.getfield 38, 3) := by decide +kernel
theorem dX3_readUnit_100 : decode cX3_readUnit 100 = .ok (.iconst 1, 1) := by decide +kernel
theorem dX3_readUnit_101 : decode cX3_readUnit 101 = .ok (.iadd, 1) := by decide +kernel
theorem dX3_readUnit_102 : decode cX3_readUnit 102 = .ok (.putfield 38, 3) := by decide +kernel
theorem dX3_readUnit_105 : decode cX3_readUnit 105 = .ok (.aload_n 0, 1) := by decide +kernel
theorem dX3_readUnit_106 : decode cX3_readUnit 106 = .ok (.iload_n 1, 1) := by decide +kernel
theorem dX3_readUnit_107 : decode cX3_readUnit 107 = .ok (.iconst 1, 1) := by decide +kernel
theorem dX3_readUnit_108 : decode cX3_readUnit 108 = .ok (.iadd, 1) := by decide +kernel
theorem dX3_readUnit_109 : decode cX3_readUnit 109 = .ok (.invokevirtual 179, 3) := by decide +kernel
theorem dX3_readUnit_112 : decode cX3_readUnit 112 = .ok (.ifCond .eq 16, 3) := by decide +kernel
theorem dX3_readUnit_115 : decode cX3_readUnit 115 = .ok (.aload_n 0, 1) := by decide +kernel
theorem dX3_readUnit_116 : decode cX3_readUnit 116 = .ok (.bipush 41, 2) := by decide +kernel
theorem dX3_readUnit_118 : decode cX3_readUnit 118 = .ok (.invokevirtual 137, 3) := by decide +kernel
theorem dX3_readUnit_121 : decode cX3_readUnit 121 = .ok (.ifCond .eq 7, 3) := by decide +kernel
theorem dX3_readUnit_124 : decode cX3_readUnit 124 = .ok (.iconst 1, 1) := by decide +kernel
theorem dX3_readUnit_125 : decode cX3_readUnit 125 = .ok (.goto 4, 3) := by decide +kernel
theorem dX3_readUnit_128 : decode cX3_readUnit 128 = .ok (.iconst 0, 1) := by decide +kernel
theorem dX3_readUnit_129 : decode cX3_readUnit 129 = .ok (.ireturn, 1) := by decide +kernel
theorem dX3_number_0 : decode cX3_number 0 = .ok (.aload_n 0, 1) := by decide +kernel
theorem dX3_number_1 : decode cX3_number 1 = .ok (.getfield 25, 3) := by decide +kernel
theorem dX3_number_4 : decode cX3_number 4 = .ok (.aload_n 0, 1) := by decide +kernel
theorem dX3_number_5 : decode cX3_number 5 = .ok (.getfield 38, 3) := by decide +kernel
theorem dX3_number_8 : decode cX3_number 8 = .ok (.iaload, 1) := by decide +kernel
theorem dX3_number_9 : decode cX3_number 9 = .ok (.bipush (-22), 2) := by decide +kernel
theorem dX3_number_11 : decode cX3_number 11 = .ok (.if_icmp .eq 11, 3) := by decide +kernel
theorem dX3_number_14 : decode cX3_number 14 = .ok (.aload_n 0, 1) := by decide +kernel
theorem dX3_number_15 : decode cX3_number 15 = .ok (.iconst 1, 1) := by decide +kernel
theorem dX3_number_16 : decode cX3_number 16 = .ok (.invokevirtual 124, 3) := by decide +kernel
theorem dX3_number_19 : decode cX3_number 19 = .ok (.pop, 1) := by decide +kernel
theorem dX3_number_20 : decode cX3_number 20 = .ok (.iconst (-1), 1) := by decide +kernel
theorem dX3_number_21 : decode cX3_number 21 = .ok (.ireturn, 1) := by decide +kernel
theorem dX3_number_22 : decode cX3_number 22 = .ok (.aload_n 0, 1) := by decide +kernel
theorem dX3_number_23 : decode cX3_number 23 = .ok (.getfield 32, 3) := by decide +kernel
theorem dX3_number_26 : decode cX3_number 26 = .ok (.aload_n 0, 1) := by decide +kernel
theorem dX3_number_27 : decode cX3_number 27 = .ok (.getfield 38, 3) := by decide +kernel
theorem dX3_number_30 : decode cX3_number 30 = .ok (.iaload, 1) := by decide +kernel
theorem dX3_number_31 : decode cX3_number 31 = .ok (.istore_n 3, 1) := by decide +kernel
theorem dX3_number_32 : decode cX3_number 32 = .ok (.iload_n 3, 1) := by decide +kernel
theorem dX3_number_33 : decode cX3_number 33 = .ok (.iload_n 1, 1) := by decide +kernel
theorem dX3_number_34 : decode cX3_number 34 = .ok (.if_icmp .lt 8, 3) := by decide +kernel
theorem dX3_number_37 : decode cX3_number 37 = .ok (.iload_n 3, 1) := by decide +kernel
theorem dX3_number_38 : decode cX3_number 38 = .ok (.iload_n 2, 1) := by decide +kernel
theorem dX3_number_39 : decode cX3_number 39 = .ok (.if_icmp .le 11, 3) := by decide +kernel
theorem dX3_number_42 : decode cX3_number 42 = .ok (.aload_n 0, 1) := by decide +kernel
theorem dX3_number_43 : decode cX3_number 43 = .ok (.iconst 2, 1) := by decide +kernel
theorem dX3_number_44 : decode cX3_number 44 = .ok (.invokevirtual 124, 3) := by decide +kernel
theorem dX3_number_47 : decode cX3_number 47 = .ok (.pop, 1) := by decide +kernel
theorem dX3_number_48 : decode cX3_number 48 = .ok (.iconst (-1), 1) := by decide +kernel
theorem dX3_number_49 : decode cX3_number 49 = .ok (.ireturn, 1) := by decide +kernel
theorem dX3_number_50 : decode cX3_number 50 = .ok (.aload_n 0, 1) := by decide +kernel
theorem dX3_number_51 : decode cX3_number 51 = .ok (.dup, 1) := by decide +kernel
theorem dX3_number_52 : decode cX3_number 52 = .ok (.getfield 38, 3) := by decide +kernel
theorem dX3_number_55 : decode cX3_number 55 = .ok (.iconst 1, 1) := by decide +kernel
theorem dX3_number_56 : decode cX3_number 56 = .ok (.iadd, 1) := by decide +kernel
theorem dX3_number_57 : decode cX3_number 57 = .ok (.putfield 38, 3) := by decide +kernel
theorem dX3_number_60 : decode cX3_number 60 = .ok (.iload_n 3, 1) := by decide +kernel
theorem dX3_number_61 : decode cX3_number 61 = .ok (.ireturn, 1) := by decide +kernel
theorem dX3_expect_0 : decode cX3_expect 0 = .ok (.aload_n 0, 1) := by decide +kernel
theorem dX3_expect_1 : decode cX3_expect 1 = .ok (.iload_n 1, 1) := by decide +kernel
theorem dX3_expect_2 : decode cX3_expect 2 = .ok (.invokevirtual 170, 3) := by decide +kernel
theorem dX3_expect_5 : decode cX3_expect 5 = .ok (.ifCond .ne 11, 3) := by decide +kernel
theorem dX3_expect_8 : decode cX3_expect 8 = .ok (.aload_n 0, 1) := by decide +kernel
theorem dX3_expect_9 : decode cX3_expect 9 = .ok (.iconst 1, 1) := by decide +kernel
theorem dX3_expect_10 : decode cX3_expect 10 = .ok (.invokevirtual 124, 3) := by decide +kernel
theorem dX3_expect_13 : decode cX3_expect 13 = .ok (.ifCond .eq 7, 3) := by decide +kernel
theorem dX3_expect_16 : decode cX3_expect 16 = .ok (.iconst 1, 1) := by decide +kernel
theorem dX3_expect_17 : decode cX3_expect 17 = .ok (.goto 4, 3) := by decide +kernel
theorem dX3_expect_20 : decode cX3_expect 20 = .ok (.iconst 0, 1) := by decide +kernel
theorem dX3_expect_21 : decode cX3_expect 21 = .ok (.ireturn, 1) := by decide +kernel
theorem dX3_take_0 : decode cX3_take 0 = .ok (.aload_n 0, 1) := by decide +kernel
theorem dX3_take_1 : decode cX3_take 1 = .ok (.getfield 25, 3) := by decide +kernel
theorem dX3_take_4 : decode cX3_take 4 = .ok (.aload_n 0, 1) := by decide +kernel
theorem dX3_take_5 : decode cX3_take 5 = .ok (.getfield 38, 3) := by decide +kernel
theorem dX3_take_8 : decode cX3_take 8 = .ok (.iaload, 1) := by decide +kernel
theorem dX3_take_9 : decode cX3_take 9 = .ok (.iload_n 1, 1) := by decide +kernel
theorem dX3_take_10 : decode cX3_take 10 = .ok (.if_icmp .ne 14, 3) := by decide +kernel
theorem dX3_take_13 : decode cX3_take 13 = .ok (.aload_n 0, 1) := by decide +kernel
theorem dX3_take_14 : decode cX3_take 14 = .ok (.getfield 38, 3) := by decide +kernel
theorem dX3_take_17 : decode cX3_take 17 = .ok (.aload_n 0, 1) := by decide +kernel
theorem dX3_take_18 : decode cX3_take 18 = .ok (.getfield 35, 3) := by decide +kernel
theorem dX3_take_21 : decode cX3_take 21 = .ok (.if_icmp .lt 5, 3) := by decide +kernel
theorem dX3_take_24 : decode cX3_take 24 = .ok (.iconst 0, 1) := by decide +kernel
theorem dX3_take_25 : decode cX3_take 25 = .ok (.ireturn, 1) := by decide +kernel
theorem dX3_take_26 : decode cX3_take 26 = .ok (.aload_n 0, 1) := by decide +kernel
theorem dX3_take_27 : decode cX3_take 27 = .ok (.dup, 1) := by decide +kernel
theorem dX3_take_28 : decode cX3_take 28 = .ok (.getfield 38, 3) := by decide +kernel
theorem dX3_take_31 : decode cX3_take 31 = .ok (.iconst 1, 1) := by decide +kernel
theorem dX3_take_32 : decode cX3_take 32 = .ok (.iadd, 1) := by decide +kernel
theorem dX3_take_33 : decode cX3_take 33 = .ok (.putfield 38, 3) := by decide +kernel
theorem dX3_take_36 : decode cX3_take 36 = .ok (.iconst 1, 1) := by decide +kernel
theorem dX3_take_37 : decode cX3_take 37 = .ok (.ireturn, 1) := by decide +kernel
theorem dX3_fail_0 : decode cX3_fail 0 = .ok (.aload_n 0, 1) := by decide +kernel
theorem dX3_fail_1 : decode cX3_fail 1 = .ok (.iload_n 1, 1) := by decide +kernel
theorem dX3_fail_2 : decode cX3_fail 2 = .ok (.putfield 22, 3) := by decide +kernel
theorem dX3_fail_5 : decode cX3_fail 5 = .ok (.aload_n 0, 1) := by decide +kernel
theorem dX3_fail_6 : decode cX3_fail 6 = .ok (.aload_n 0, 1) := by decide +kernel
theorem dX3_fail_7 : decode cX3_fail 7 = .ok (.getfield 29, 3) := by decide +kernel
theorem dX3_fail_10 : decode cX3_fail 10 = .ok (.aload_n 0, 1) := by decide +kernel
theorem dX3_fail_11 : decode cX3_fail 11 = .ok (.getfield 38, 3) := by decide +kernel
theorem dX3_fail_14 : decode cX3_fail 14 = .ok (.iaload, 1) := by decide +kernel
theorem dX3_fail_15 : decode cX3_fail 15 = .ok (.putfield 18, 3) := by decide +kernel
theorem dX3_fail_18 : decode cX3_fail 18 = .ok (.iconst 0, 1) := by decide +kernel
theorem dX3_fail_19 : decode cX3_fail 19 = .ok (.ireturn, 1) := by decide +kernel
theorem dX3_write_0 : decode cX3_write 0 = .ok (.aload_n 0, 1) := by decide +kernel
theorem dX3_write_1 : decode cX3_write 1 = .ok (.getfield 12, 3) := by decide +kernel
theorem dX3_write_4 : decode cX3_write 4 = .ok (.getfield 44, 3) := by decide +kernel
theorem dX3_write_7 : decode cX3_write 7 = .ok (.sipush 300, 3) := by decide +kernel
theorem dX3_write_10 : decode cX3_write 10 = .ok (.if_icmp .lt 5, 3) := by decide +kernel
theorem dX3_write_13 : decode cX3_write 13 = .ok (.iconst 0, 1) := by decide +kernel
theorem dX3_write_14 : decode cX3_write 14 = .ok (.ireturn, 1) := by decide +kernel
theorem dX3_write_15 : decode cX3_write 15 = .ok (.aload_n 0, 1) := by decide +kernel
theorem dX3_write_16 : decode cX3_write 16 = .ok (.getfield 12, 3) := by decide +kernel
theorem dX3_write_19 : decode cX3_write 19 = .ok (.getfield 188, 3) := by decide +kernel
theorem dX3_write_22 : decode cX3_write 22 = .ok (.aload_n 0, 1) := by decide +kernel
theorem dX3_write_23 : decode cX3_write 23 = .ok (.getfield 12, 3) := by decide +kernel
theorem dX3_write_26 : decode cX3_write 26 = .ok (.getfield 44, 3) := by decide +kernel
theorem dX3_write_29 : decode cX3_write 29 = .ok (.iload_n 1, 1) := by decide +kernel
theorem dX3_write_30 : decode cX3_write 30 = .ok (.iastore, 1) := by decide +kernel
theorem dX3_write_31 : decode cX3_write 31 = .ok (.aload_n 0, 1) := by decide +kernel
theorem dX3_write_32 : decode cX3_write 32 = .ok (.getfield 12, 3) := by decide +kernel
theorem dX3_write_35 : decode cX3_write 35 = .ok (.dup, 1) := by decide +kernel
theorem dX3_write_36 : decode cX3_write 36 = .ok (.getfield 44, 3) := by decide +kernel
theorem dX3_write_39 : decode cX3_write 39 = .ok (.iconst 1, 1) := by decide +kernel
theorem dX3_write_40 : decode cX3_write 40 = .ok (.iadd, 1) := by decide +kernel
theorem dX3_write_41 : decode cX3_write 41 = .ok (.putfield 44, 3) := by decide +kernel
theorem dX3_write_44 : decode cX3_write 44 = .ok (.iconst 1, 1) := by decide +kernel
theorem dX3_write_45 : decode cX3_write 45 = .ok (.ireturn, 1) := by decide +kernel
