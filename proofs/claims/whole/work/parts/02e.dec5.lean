theorem dX5_init_0 : decode cX5_init 0 = .ok (.aload_n 0, 1) := by decide +kernel
theorem dX5_init_1 : decode cX5_init 1 = .ok (.invokespecial 1, 3) := by decide +kernel
theorem dX5_init_4 : decode cX5_init 4 = .ok (.aload_n 0, 1) := by decide +kernel
theorem dX5_init_5 : decode cX5_init 5 = .ok (.sipush 300, 3) := by decide +kernel
theorem dX5_init_8 : decode cX5_init 8 = .ok (.newarray .byte, 2) := by decide +kernel
theorem dX5_init_10 : decode cX5_init 10 = .ok (.putfield 9, 3) := by decide +kernel
theorem dX5_init_13 : decode cX5_init 13 = .ok (.aload_n 0, 1) := by decide +kernel
theorem dX5_init_14 : decode cX5_init 14 = .ok (.iconst 0, 1) := by decide +kernel
theorem dX5_init_15 : decode cX5_init 15 = .ok (.putfield 13, 3) := by decide +kernel
theorem dX5_init_18 : decode cX5_init 18 = .ok (.aload_n 0, 1) := by decide +kernel
theorem dX5_init_19 : decode cX5_init 19 = .ok (.new 17, 3) := by decide +kernel
theorem dX5_init_22 : decode cX5_init 22 = .ok (.dup, 1) := by decide +kernel
theorem dX5_init_23 : decode cX5_init 23 = .ok (.invokespecial 19, 3) := by decide +kernel
theorem dX5_init_26 : decode cX5_init 26 = .ok (.putfield 20, 3) := by decide +kernel
theorem dX5_init_29 : decode cX5_init 29 = .ok (.aload_n 0, 1) := by decide +kernel
theorem dX5_init_30 : decode cX5_init 30 = .ok (.iconst (-1), 1) := by decide +kernel
theorem dX5_init_31 : decode cX5_init 31 = .ok (.putfield 24, 3) := by decide +kernel
theorem dX5_init_34 : decode cX5_init 34 = .ok (.aload_n 0, 1) := by decide +kernel
theorem dX5_init_35 : decode cX5_init 35 = .ok (.bipush 6, 2) := by decide +kernel
theorem dX5_init_37 : decode cX5_init 37 = .ok (.anewarray 27, 3) := by decide +kernel
theorem dX5_init_40 : decode cX5_init 40 = .ok (.putfield 29, 3) := by decide +kernel
theorem dX5_init_43 : decode cX5_init 43 = .ok (.aload_n 0, 1) := by decide +kernel
theorem dX5_init_44 : decode cX5_init 44 = .ok (.iconst 0, 1) := by decide +kernel
theorem dX5_init_45 : decode cX5_init 45 = .ok (.putfield 33, 3) := by decide +kernel
theorem dX5_init_48 : decode cX5_init 48 = .ok (.aload_n 0, 1) := by decide +kernel
theorem dX5_init_49 : decode cX5_init 49 = .ok (.new 36, 3) := by decide +kernel
theorem dX5_init_52 : decode cX5_init 52 = .ok (.dup, 1) := by decide +kernel
theorem dX5_init_53 : decode cX5_init 53 = .ok (.invokespecial 38, 3) := by decide +kernel
theorem dX5_init_56 : decode cX5_init 56 = .ok (.putfield 39, 3) := by decide +kernel
theorem dX5_init_59 : decode cX5_init 59 = .ok (.aload_n 0, 1) := by decide +kernel
theorem dX5_init_60 : decode cX5_init 60 = .ok (.iconst 3, 1) := by decide +kernel
theorem dX5_init_61 : decode cX5_init 61 = .ok (.anewarray 36, 3) := by decide +kernel
theorem dX5_init_64 : decode cX5_init 64 = .ok (.putfield 43, 3) := by decide +kernel
theorem dX5_init_67 : decode cX5_init 67 = .ok (.aload_n 0, 1) := by decide +kernel
theorem dX5_init_68 : decode cX5_init 68 = .ok (.iconst 0, 1) := by decide +kernel
theorem dX5_init_69 : decode cX5_init 69 = .ok (.putfield 47, 3) := by decide +kernel
theorem dX5_init_72 : decode cX5_init 72 = .ok (.aload_n 0, 1) := by decide +kernel
theorem dX5_init_73 : decode cX5_init 73 = .ok (.new 50, 3) := by decide +kernel
theorem dX5_init_76 : decode cX5_init 76 = .ok (.dup, 1) := by decide +kernel
theorem dX5_init_77 : decode cX5_init 77 = .ok (.invokespecial 52, 3) := by decide +kernel
theorem dX5_init_80 : decode cX5_init 80 = .ok (.putfield 53, 3) := by decide +kernel
theorem dX5_init_83 : decode cX5_init 83 = .ok (.aload_n 0, 1) := by decide +kernel
theorem dX5_init_84 : decode cX5_init 84 = .ok (.bipush 6, 2) := by decide +kernel
theorem dX5_init_86 : decode cX5_init 86 = .ok (.anewarray 57, 3) := by decide +kernel
theorem dX5_init_89 : decode cX5_init 89 = .ok (.putfield 59, 3) := by decide +kernel
theorem dX5_init_92 : decode cX5_init 92 = .ok (.aload_n 0, 1) := by decide +kernel
theorem dX5_init_93 : decode cX5_init 93 = .ok (.bipush 6, 2) := by decide +kernel
theorem dX5_init_95 : decode cX5_init 95 = .ok (.newarray .int, 2) := by decide +kernel
theorem dX5_init_97 : decode cX5_init 97 = .ok (.putfield 63, 3) := by decide +kernel
theorem dX5_init_100 : decode cX5_init 100 = .ok (.aload_n 0, 1) := by decide +kernel
theorem dX5_init_101 : decode cX5_init 101 = .ok (.bipush 6, 2) := by decide +kernel
theorem dX5_init_103 : decode cX5_init 103 = .ok (.newarray .long, 2) := by decide +kernel
theorem dX5_init_105 : decode cX5_init 105 = .ok (.putfield 67, 3) := by decide +kernel
theorem dX5_init_108 : decode cX5_init 108 = .ok (.iconst 0, 1) := by decide +kernel
theorem dX5_init_109 : decode cX5_init 109 = .ok (.istore_n 1, 1) := by decide +kernel
theorem dX5_init_110 : decode cX5_init 110 = .ok (.iload_n 1, 1) := by decide +kernel
theorem dX5_init_111 : decode cX5_init 111 = .ok (.bipush 6, 2) := by decide +kernel
theorem dX5_init_113 : decode cX5_init 113 = .ok (.if_icmp .ge 42, 3) := by decide +kernel
theorem dX5_init_116 : decode cX5_init 116 = .ok (.aload_n 0, 1) := by decide +kernel
theorem dX5_init_117 : decode cX5_init 117 = .ok (.getfield 29, 3) := by decide +kernel
theorem dX5_init_120 : decode cX5_init 120 = .ok (.iload_n 1, 1) := by decide +kernel
theorem dX5_init_121 : decode cX5_init 121 = .ok (.new 27, 3) := by decide +kernel
theorem dX5_init_124 : decode cX5_init 124 = .ok (.dup, 1) := by decide +kernel
theorem dX5_init_125 : decode cX5_init 125 = .ok (.invokespecial 71, 3) := by decide +kernel
theorem dX5_init_128 : decode cX5_init 128 = .ok (.aastore, 1) := by decide +kernel
theorem dX5_init_129 : decode cX5_init 129 = .ok (.aload_n 0, 1) := by decide +kernel
theorem dX5_init_130 : decode cX5_init 130 = .ok (.getfield 59, 3) := by decide +kernel
theorem dX5_init_133 : decode cX5_init 133 = .ok (.iload_n 1, 1) := by decide +kernel
theorem dX5_init_134 : decode cX5_init 134 = .ok (.new 57, 3) := by decide +kernel
theorem dX5_init_137 : decode cX5_init 137 = .ok (.dup, 1) := by decide +kernel
theorem dX5_init_138 : decode cX5_init 138 = .ok (.invokespecial 72, 3) := by decide +kernel
theorem dX5_init_141 : decode cX5_init 141 = .ok (.aastore, 1) := by decide +kernel
theorem dX5_init_142 : decode cX5_init 142 = .ok (.aload_n 0, 1) := by decide +kernel
theorem dX5_init_143 : decode cX5_init 143 = .ok (.getfield 63, 3) := by decide +kernel
theorem dX5_init_146 : decode cX5_init 146 = .ok (.iload_n 1, 1) := by decide +kernel
theorem dX5_init_147 : decode cX5_init 147 = .ok (.iconst (-1), 1) := by decide +kernel
theorem dX5_init_148 : decode cX5_init 148 = .ok (.iastore, 1) := by decide +kernel
theorem dX5_init_149 : decode cX5_init 149 = .ok (.iinc 1 1, 3) := by decide +kernel
theorem dX5_init_152 : decode cX5_init 152 = .ok (.goto (-42), 3) := by decide +kernel
theorem dX5_init_155 : decode cX5_init 155 = .ok (.iconst 0, 1) := by decide +kernel
theorem dX5_init_156 : decode cX5_init 156 = .ok (.istore_n 1, 1) := by decide +kernel
theorem dX5_init_157 : decode cX5_init 157 = .ok (.iload_n 1, 1) := by decide +kernel
theorem dX5_init_158 : decode cX5_init 158 = .ok (.iconst 3, 1) := by decide +kernel
theorem dX5_init_159 : decode cX5_init 159 = .ok (.if_icmp .ge 22, 3) := by decide +kernel
theorem dX5_init_162 : decode cX5_init 162 = .ok (.aload_n 0, 1) := by decide +kernel
theorem dX5_init_163 : decode cX5_init 163 = .ok (.getfield 43, 3) := by decide +kernel
theorem dX5_init_166 : decode cX5_init 166 = .ok (.iload_n 1, 1) := by decide +kernel
theorem dX5_init_167 : decode cX5_init 167 = .ok (.new 36, 3) := by decide +kernel
theorem dX5_init_170 : decode cX5_init 170 = .ok (.dup, 1) := by decide +kernel
theorem dX5_init_171 : decode cX5_init 171 = .ok (.invokespecial 38, 3) := by decide +kernel
theorem dX5_init_174 : decode cX5_init 174 = .ok (.aastore, 1) := by decide +kernel
theorem dX5_init_175 : decode cX5_init 175 = .ok (.iinc 1 1, 3) := by decide +kernel
theorem dX5_init_178 : decode cX5_init 178 = .ok (.goto (-21), 3) := by decide +kernel
theorem dX5_init_181 : decode cX5_init 181 = .ok (.return_, 1) := by decide +kernel
theorem dX5_feed_0 : decode cX5_feed 0 = .ok (.aload_n 0, 1) := by decide +kernel
theorem dX5_feed_1 : decode cX5_feed 1 = .ok (.getfield 13, 3) := by decide +kernel
theorem dX5_feed_4 : decode cX5_feed 4 = .ok (.bipush 20, 2) := by decide +kernel
theorem dX5_feed_6 : decode cX5_feed 6 = .ok (.iadd, 1) := by decide +kernel
theorem dX5_feed_7 : decode cX5_feed 7 = .ok (.sipush 300, 3) := by decide +kernel
theorem dX5_feed_10 : decode cX5_feed 10 = .ok (.if_icmp .le 5, 3) := by decide +kernel
theorem dX5_feed_13 : decode cX5_feed 13 = .ok (.iconst (-1), 1) := by decide +kernel
theorem dX5_feed_14 : decode cX5_feed 14 = .ok (.ireturn, 1) := by decide +kernel
theorem dX5_feed_15 : decode cX5_feed 15 = .ok (.iconst 0, 1) := by decide +kernel
theorem dX5_feed_16 : decode cX5_feed 16 = .ok (.istore 6, 2) := by decide +kernel
theorem dX5_feed_18 : decode cX5_feed 18 = .ok (.iload 6, 2) := by decide +kernel
theorem dX5_feed_20 : decode cX5_feed 20 = .ok (.iconst 5, 1) := by decide +kernel
theorem dX5_feed_21 : decode cX5_feed 21 = .ok (.if_icmp .ge 93, 3) := by decide +kernel
theorem dX5_feed_24 : decode cX5_feed 24 = .ok (.iload 6, 2) := by decide +kernel
theorem dX5_feed_26 : decode cX5_feed 26 = .ok (.ifCond .ne 7, 3) := by decide +kernel
theorem dX5_feed_29 : decode cX5_feed 29 = .ok (.iload_n 1, 1) := by decide +kernel
theorem dX5_feed_30 : decode cX5_feed 30 = .ok (.goto 36, 3) := by decide +kernel
theorem dX5_feed_33 : decode cX5_feed 33 = .ok (.iload 6, 2) := by decide +kernel
theorem dX5_feed_35 : decode cX5_feed 35 = .ok (.iconst 1, 1) := by decide +kernel
theorem dX5_feed_36 : decode cX5_feed 36 = .ok (.if_icmp .ne 7, 3) := by decide +kernel
theorem dX5_feed_39 : decode cX5_feed 39 = .ok (.iload_n 2, 1) := by decide +kernel
theorem dX5_feed_40 : decode cX5_feed 40 = .ok (.goto 26, 3) := by decide +kernel
theorem dX5_feed_43 : decode cX5_feed 43 = .ok (.iload 6, 2) := by decide +kernel
theorem dX5_feed_45 : decode cX5_feed 45 = .ok (.iconst 2, 1) := by decide +kernel
theorem dX5_feed_46 : decode cX5_feed 46 = .ok (.if_icmp .ne 7, 3) := by decide +kernel
theorem dX5_feed_49 : decode cX5_feed 49 = .ok (.iload_n 3, 1) := by decide +kernel
theorem dX5_feed_50 : decode cX5_feed 50 = .ok (.goto 16, 3) := by decide +kernel
theorem dX5_feed_53 : decode cX5_feed 53 = .ok (.iload 6, 2) := by decide +kernel
theorem dX5_feed_55 : decode cX5_feed 55 = .ok (.iconst 3, 1) := by decide +kernel
theorem dX5_feed_56 : decode cX5_feed 56 = .ok (.if_icmp .ne 8, 3) := by decide +kernel
theorem dX5_feed_59 : decode cX5_feed 59 = .ok (.iload 4, 2) := by decide +kernel
theorem dX5_feed_61 : decode cX5_feed 61 = .ok (.goto 5, 3) := by decide +kernel
theorem dX5_feed_64 : decode cX5_feed 64 = .ok (.iload 5, 2) := by decide +kernel
theorem dX5_feed_66 : decode cX5_feed 66 = .ok (.istore 7, 2) := by decide +kernel
theorem dX5_feed_68 : decode cX5_feed 68 = .ok (.bipush 24, 2) := by decide +kernel
theorem dX5_feed_70 : decode cX5_feed 70 = .ok (.istore 8, 2) := by decide +kernel
theorem dX5_feed_72 : decode cX5_feed 72 = .ok (.iload 8, 2) := by decide +kernel
theorem dX5_feed_74 : decode cX5_feed 74 = .ok (.ifCond .lt 34, 3) := by decide +kernel
theorem dX5_feed_77 : decode cX5_feed 77 = .ok (.aload_n 0, 1) := by decide +kernel
theorem dX5_feed_78 : decode cX5_feed 78 = .ok (.getfield 9, 3) := by decide +kernel
theorem dX5_feed_81 : decode cX5_feed 81 = .ok (.aload_n 0, 1) := by decide +kernel
theorem dX5_feed_82 : decode cX5_feed 82 = .ok (.getfield 13, 3) := by decide +kernel
theorem dX5_feed_85 : decode cX5_feed 85 = .ok (.iload 7, 2) := by decide +kernel
theorem dX5_feed_87 : decode cX5_feed 87 = .ok (.iload 8, 2) := by decide +kernel
theorem dX5_feed_89 : decode cX5_feed 89 = .ok (.ishr, 1) := by decide +kernel
theorem dX5_feed_90 : decode cX5_feed 90 = .ok (.i2b, 1) := by decide +kernel
theorem dX5_feed_91 : decode cX5_feed 91 = .ok (.bastore, 1) := by decide +kernel
theorem dX5_feed_92 : decode cX5_feed 92 = .ok (.aload_n 0, 1) := by decide +kernel
theorem dX5_feed_93 : decode cX5_feed 93 = .ok (.dup, 1) := by decide +kernel
theorem dX5_feed_94 : decode cX5_feed 94 = .ok (.getfield 13, 3) := by decide +kernel
theorem dX5_feed_97 : decode cX5_feed 97 = .ok (.iconst 1, 1) := by decide +kernel
theorem dX5_feed_98 : decode cX5_feed 98 = .ok (.iadd, 1) := by decide +kernel
theorem dX5_feed_99 : decode cX5_feed 99 = .ok (.putfield 13, 3) := by decide +kernel
theorem dX5_feed_102 : decode cX5_feed 102 = .ok (.iinc 8 (-8), 3) := by decide +kernel
theorem dX5_feed_105 : decode cX5_feed 105 = .ok (.goto (-33), 3) := by decide +kernel
theorem dX5_feed_108 : decode cX5_feed 108 = .ok (.iinc 6 1, 3) := by decide +kernel
theorem dX5_feed_111 : decode cX5_feed 111 = .ok (.goto (-93), 3) := by decide +kernel
theorem dX5_feed_114 : decode cX5_feed 114 = .ok (.aload_n 0, 1) := by decide +kernel
theorem dX5_feed_115 : decode cX5_feed 115 = .ok (.getfield 13, 3) := by decide +kernel
theorem dX5_feed_118 : decode cX5_feed 118 = .ok (.ireturn, 1) := by decide +kernel
theorem dX5_why_0 : decode cX5_why 0 = .ok (.iload_n 1, 1) := by decide +kernel
theorem dX5_why_1 : decode cX5_why 1 = .ok (.ifCond .lt 11, 3) := by decide +kernel
theorem dX5_why_4 : decode cX5_why 4 = .ok (.iload_n 1, 1) := by decide +kernel
theorem dX5_why_5 : decode cX5_why 5 = .ok (.aload_n 0, 1) := by decide +kernel
theorem dX5_why_6 : decode cX5_why 6 = .ok (.getfield 13, 3) := by decide +kernel
theorem dX5_why_9 : decode cX5_why 9 = .ok (.if_icmp .le 13, 3) := by decide +kernel
theorem dX5_why_12 : decode cX5_why 12 = .ok (.new 73, 3) := by decide +kernel
theorem dX5_why_15 : decode cX5_why 15 = .ok (.dup, 1) := by decide +kernel
theorem dX5_why_16 : decode cX5_why 16 = .ok (.ldc 75, 2) := by decide +kernel
theorem dX5_why_18 : decode cX5_why 18 = .ok (.invokespecial 77, 3) := by decide +kernel
theorem dX5_why_21 : decode cX5_why 21 = .ok (.athrow, 1) := by decide +kernel
theorem dX5_why_22 : decode cX5_why 22 = .ok (.aload_n 0, 1) := by decide +kernel
theorem dX5_why_23 : decode cX5_why 23 = .ok (.iconst 0, 1) := by decide +kernel
theorem dX5_why_24 : decode cX5_why 24 = .ok (.putfield 13, 3) := by decide +kernel
theorem dX5_why_27 : decode cX5_why 27 = .ok (.aload_n 0, 1) := by decide +kernel
theorem dX5_why_28 : decode cX5_why 28 = .ok (.getfield 33, 3) := by decide +kernel
theorem dX5_why_31 : decode cX5_why 31 = .ok (.bipush 6, 2) := by decide +kernel
theorem dX5_why_33 : decode cX5_why 33 = .ok (.if_icmp .lt 10, 3) := by decide +kernel
theorem dX5_why_36 : decode cX5_why 36 = .ok (.aload_n 0, 1) := by decide +kernel
theorem dX5_why_37 : decode cX5_why 37 = .ok (.iconst (-1), 1) := by decide +kernel
theorem dX5_why_38 : decode cX5_why 38 = .ok (.putfield 24, 3) := by decide +kernel
theorem dX5_why_41 : decode cX5_why 41 = .ok (.iconst (-1), 1) := by decide +kernel
theorem dX5_why_42 : decode cX5_why 42 = .ok (.ireturn, 1) := by decide +kernel
theorem dX5_why_43 : decode cX5_why 43 = .ok (.aload_n 0, 1) := by decide +kernel
theorem dX5_why_44 : decode cX5_why 44 = .ok (.getfield 20, 3) := by decide +kernel
theorem dX5_why_47 : decode cX5_why 47 = .ok (.aload_n 0, 1) := by decide +kernel
theorem dX5_why_48 : decode cX5_why 48 = .ok (.getfield 9, 3) := by decide +kernel
theorem dX5_why_51 : decode cX5_why 51 = .ok (.iload_n 1, 1) := by decide +kernel
theorem dX5_why_52 : decode cX5_why 52 = .ok (.invokevirtual 80, 3) := by decide +kernel
theorem dX5_why_55 : decode cX5_why 55 = .ok (.istore_n 2, 1) := by decide +kernel
theorem dX5_why_56 : decode cX5_why 56 = .ok (.aload_n 0, 1) := by decide +kernel
theorem dX5_why_57 : decode cX5_why 57 = .ok (.aload_n 0, 1) := by decide +kernel
theorem dX5_why_58 : decode cX5_why 58 = .ok (.getfield 20, 3) := by decide +kernel
theorem dX5_why_61 : decode cX5_why 61 = .ok (.getfield 84, 3) := by decide +kernel
theorem dX5_why_64 : decode cX5_why 64 = .ok (.putfield 24, 3) := by decide +kernel
theorem dX5_why_67 : decode cX5_why 67 = .ok (.iload_n 2, 1) := by decide +kernel
theorem dX5_why_68 : decode cX5_why 68 = .ok (.ifCond .eq 8, 3) := by decide +kernel
theorem dX5_why_71 : decode cX5_why 71 = .ok (.iload_n 2, 1) := by decide +kernel
theorem dX5_why_72 : decode cX5_why 72 = .ok (.bipush 10, 2) := by decide +kernel
theorem dX5_why_74 : decode cX5_why 74 = .ok (.isub, 1) := by decide +kernel
theorem dX5_why_75 : decode cX5_why 75 = .ok (.ireturn, 1) := by decide +kernel
theorem dX5_why_76 : decode cX5_why 76 = .ok (.aload_n 0, 1) := by decide +kernel
theorem dX5_why_77 : decode cX5_why 77 = .ok (.getfield 29, 3) := by decide +kernel
theorem dX5_why_80 : decode cX5_why 80 = .ok (.aload_n 0, 1) := by decide +kernel
theorem dX5_why_81 : decode cX5_why 81 = .ok (.getfield 33, 3) := by decide +kernel
theorem dX5_why_84 : decode cX5_why 84 = .ok (.aaload, 1) := by decide +kernel
theorem dX5_why_85 : decode cX5_why 85 = .ok (.aload_n 0, 1) := by decide +kernel
theorem dX5_why_86 : decode cX5_why 86 = .ok (.getfield 20, 3) := by decide +kernel
theorem dX5_why_89 : decode cX5_why 89 = .ok (.getfield 85, 3) := by decide +kernel
theorem dX5_why_92 : decode cX5_why 92 = .ok (.invokevirtual 89, 3) := by decide +kernel
theorem dX5_why_95 : decode cX5_why 95 = .ok (.aload_n 0, 1) := by decide +kernel
theorem dX5_why_96 : decode cX5_why 96 = .ok (.dup, 1) := by decide +kernel
theorem dX5_why_97 : decode cX5_why 97 = .ok (.getfield 33, 3) := by decide +kernel
theorem dX5_why_100 : decode cX5_why 100 = .ok (.iconst 1, 1) := by decide +kernel
theorem dX5_why_101 : decode cX5_why 101 = .ok (.iadd, 1) := by decide +kernel
theorem dX5_why_102 : decode cX5_why 102 = .ok (.putfield 33, 3) := by decide +kernel
theorem dX5_why_105 : decode cX5_why 105 = .ok (.aload_n 0, 1) := by decide +kernel
theorem dX5_why_106 : decode cX5_why 106 = .ok (.getfield 33, 3) := by decide +kernel
theorem dX5_why_109 : decode cX5_why 109 = .ok (.iconst 1, 1) := by decide +kernel
theorem dX5_why_110 : decode cX5_why 110 = .ok (.isub, 1) := by decide +kernel
theorem dX5_why_111 : decode cX5_why 111 = .ok (.ireturn, 1) := by decide +kernel
theorem dX5_fault_0 : decode cX5_fault 0 = .ok (.aload_n 0, 1) := by decide +kernel
theorem dX5_fault_1 : decode cX5_fault 1 = .ok (.getfield 24, 3) := by decide +kernel
theorem dX5_fault_4 : decode cX5_fault 4 = .ok (.ireturn, 1) := by decide +kernel
theorem dX5_weigh_0 : decode cX5_weigh 0 = .ok (.aload_n 0, 1) := by decide +kernel
theorem dX5_weigh_1 : decode cX5_weigh 1 = .ok (.iload_n 1, 1) := by decide +kernel
theorem dX5_weigh_2 : decode cX5_weigh 2 = .ok (.invokevirtual 93, 3) := by decide +kernel
theorem dX5_weigh_5 : decode cX5_weigh 5 = .ok (.iload_n 2, 1) := by decide +kernel
theorem dX5_weigh_6 : decode cX5_weigh 6 = .ok (.iconst 1, 1) := by decide +kernel
theorem dX5_weigh_7 : decode cX5_weigh 7 = .ok (.bipush 99, 2) := by decide +kernel
theorem dX5_weigh_9 : decode cX5_weigh 9 = .ok (.invokestatic 97, 3) := by decide +kernel
theorem dX5_weigh_12 : decode cX5_weigh 12 = .ok (.aload_n 0, 1) := by decide +kernel
theorem dX5_weigh_13 : decode cX5_weigh 13 = .ok (.getfield 39, 3) := by decide +kernel
theorem dX5_weigh_16 : decode cX5_weigh 16 = .ok (.getfield 101, 3) := by decide +kernel
theorem dX5_weigh_19 : decode cX5_weigh 19 = .ok (.iload_n 1, 1) := by decide +kernel
theorem dX5_weigh_20 : decode cX5_weigh 20 = .ok (.iaload, 1) := by decide +kernel
theorem dX5_weigh_21 : decode cX5_weigh 21 = .ok (.istore_n 3, 1) := by decide +kernel
theorem dX5_weigh_22 : decode cX5_weigh 22 = .ok (.aload_n 0, 1) := by decide +kernel
theorem dX5_weigh_23 : decode cX5_weigh 23 = .ok (.getfield 39, 3) := by decide +kernel
theorem dX5_weigh_26 : decode cX5_weigh 26 = .ok (.getfield 101, 3) := by decide +kernel
theorem dX5_weigh_29 : decode cX5_weigh 29 = .ok (.iload_n 1, 1) := by decide +kernel
theorem dX5_weigh_30 : decode cX5_weigh 30 = .ok (.iload_n 2, 1) := by decide +kernel
theorem dX5_weigh_31 : decode cX5_weigh 31 = .ok (.iastore, 1) := by decide +kernel
theorem dX5_weigh_32 : decode cX5_weigh 32 = .ok (.iload_n 3, 1) := by decide +kernel
theorem dX5_weigh_33 : decode cX5_weigh 33 = .ok (.ireturn, 1) := by decide +kernel
theorem dX5_set_0 : decode cX5_set 0 = .ok (.iload_n 1, 1) := by decide +kernel
theorem dX5_set_1 : decode cX5_set 1 = .ok (.iload_n 2, 1) := by decide +kernel
theorem dX5_set_2 : decode cX5_set 2 = .ok (.invokestatic 104, 3) := by decide +kernel
theorem dX5_set_5 : decode cX5_set 5 = .ok (.aload_n 0, 1) := by decide +kernel
theorem dX5_set_6 : decode cX5_set 6 = .ok (.getfield 39, 3) := by decide +kernel
theorem dX5_set_9 : decode cX5_set 9 = .ok (.getfield 108, 3) := by decide +kernel
theorem dX5_set_12 : decode cX5_set 12 = .ok (.iload_n 1, 1) := by decide +kernel
theorem dX5_set_13 : decode cX5_set 13 = .ok (.iaload, 1) := by decide +kernel
theorem dX5_set_14 : decode cX5_set 14 = .ok (.istore_n 3, 1) := by decide +kernel
theorem dX5_set_15 : decode cX5_set 15 = .ok (.aload_n 0, 1) := by decide +kernel
theorem dX5_set_16 : decode cX5_set 16 = .ok (.getfield 39, 3) := by decide +kernel
theorem dX5_set_19 : decode cX5_set 19 = .ok (.getfield 108, 3) := by decide +kernel
theorem dX5_set_22 : decode cX5_set 22 = .ok (.iload_n 1, 1) := by decide +kernel
theorem dX5_set_23 : decode cX5_set 23 = .ok (.iload_n 2, 1) := by decide +kernel
theorem dX5_set_24 : decode cX5_set 24 = .ok (.iastore, 1) := by decide +kernel
theorem dX5_set_25 : decode cX5_set 25 = .ok (.aload_n 0, 1) := by decide +kernel
theorem dX5_set_26 : decode cX5_set 26 = .ok (.invokevirtual 111, 3) := by decide +kernel
theorem dX5_set_29 : decode cX5_set 29 = .ok (.iload_n 3, 1) := by decide +kernel
theorem dX5_set_30 : decode cX5_set 30 = .ok (.ireturn, 1) := by decide +kernel
theorem dX5_fill_0 : decode cX5_fill 0 = .ok (.iload_n 1, 1) := by decide +kernel
theorem dX5_fill_1 : decode cX5_fill 1 = .ok (.invokestatic 114, 3) := by decide +kernel
theorem dX5_fill_4 : decode cX5_fill 4 = .ok (.iload_n 2, 1) := by decide +kernel
theorem dX5_fill_5 : decode cX5_fill 5 = .ok (.iconst 0, 1) := by decide +kernel
theorem dX5_fill_6 : decode cX5_fill 6 = .ok (.sipush 999, 3) := by decide +kernel
theorem dX5_fill_9 : decode cX5_fill 9 = .ok (.invokestatic 97, 3) := by decide +kernel
theorem dX5_fill_12 : decode cX5_fill 12 = .ok (.aload_n 0, 1) := by decide +kernel
theorem dX5_fill_13 : decode cX5_fill 13 = .ok (.getfield 39, 3) := by decide +kernel
theorem dX5_fill_16 : decode cX5_fill 16 = .ok (.getfield 117, 3) := by decide +kernel
theorem dX5_fill_19 : decode cX5_fill 19 = .ok (.iload_n 1, 1) := by decide +kernel
theorem dX5_fill_20 : decode cX5_fill 20 = .ok (.iaload, 1) := by decide +kernel
theorem dX5_fill_21 : decode cX5_fill 21 = .ok (.istore_n 3, 1) := by decide +kernel
theorem dX5_fill_22 : decode cX5_fill 22 = .ok (.aload_n 0, 1) := by decide +kernel
theorem dX5_fill_23 : decode cX5_fill 23 = .ok (.getfield 39, 3) := by decide +kernel
theorem dX5_fill_26 : decode cX5_fill 26 = .ok (.getfield 117, 3) := by decide +kernel
theorem dX5_fill_29 : decode cX5_fill 29 = .ok (.iload_n 1, 1) := by decide +kernel
theorem dX5_fill_30 : decode cX5_fill 30 = .ok (.iload_n 2, 1) := by decide +kernel
theorem dX5_fill_31 : decode cX5_fill 31 = .ok (.iastore, 1) := by decide +kernel
theorem dX5_fill_32 : decode cX5_fill 32 = .ok (.aload_n 0, 1) := by decide +kernel
theorem dX5_fill_33 : decode cX5_fill 33 = .ok (.invokevirtual 111, 3) := by decide +kernel
theorem dX5_fill_36 : decode cX5_fill 36 = .ok (.iload_n 3, 1) := by decide +kernel
theorem dX5_fill_37 : decode cX5_fill 37 = .ok (.ireturn, 1) := by decide +kernel
theorem dX5_state_0 : decode cX5_state 0 = .ok (.aload_n 0, 1) := by decide +kernel
theorem dX5_state_1 : decode cX5_state 1 = .ok (.iload_n 1, 1) := by decide +kernel
theorem dX5_state_2 : decode cX5_state 2 = .ok (.invokevirtual 93, 3) := by decide +kernel
theorem dX5_state_5 : decode cX5_state 5 = .ok (.iload_n 2, 1) := by decide +kernel
theorem dX5_state_6 : decode cX5_state 6 = .ok (.iconst 0, 1) := by decide +kernel
theorem dX5_state_7 : decode cX5_state 7 = .ok (.bipush 99, 2) := by decide +kernel
theorem dX5_state_9 : decode cX5_state 9 = .ok (.invokestatic 97, 3) := by decide +kernel
theorem dX5_state_12 : decode cX5_state 12 = .ok (.aload_n 0, 1) := by decide +kernel
theorem dX5_state_13 : decode cX5_state 13 = .ok (.iload_n 1, 1) := by decide +kernel
theorem dX5_state_14 : decode cX5_state 14 = .ok (.invokevirtual 120, 3) := by decide +kernel
theorem dX5_state_17 : decode cX5_state 17 = .ok (.astore 4, 2) := by decide +kernel
theorem dX5_state_19 : decode cX5_state 19 = .ok (.iload_n 3, 1) := by decide +kernel
theorem dX5_state_20 : decode cX5_state 20 = .ok (.tableswitch 108 0 7 #[48, 56, 64, 72, 79, 87, 94, 101], 48) := by decide +kernel
theorem dX5_state_68 : decode cX5_state 68 = .ok (.aload 4, 2) := by decide +kernel
theorem dX5_state_70 : decode cX5_state 70 = .ok (.getfield 124, 3) := by decide +kernel
theorem dX5_state_73 : decode cX5_state 73 = .ok (.iload_n 2, 1) := by decide +kernel
theorem dX5_state_74 : decode cX5_state 74 = .ok (.iaload, 1) := by decide +kernel
theorem dX5_state_75 : decode cX5_state 75 = .ok (.ireturn, 1) := by decide +kernel
theorem dX5_state_76 : decode cX5_state 76 = .ok (.aload 4, 2) := by decide +kernel
theorem dX5_state_78 : decode cX5_state 78 = .ok (.getfield 127, 3) := by decide +kernel
theorem dX5_state_81 : decode cX5_state 81 = .ok (.iload_n 2, 1) := by decide +kernel
theorem dX5_state_82 : decode cX5_state 82 = .ok (.iaload, 1) := by decide +kernel
theorem dX5_state_83 : decode cX5_state 83 = .ok (.ireturn, 1) := by decide +kernel
theorem dX5_state_84 : decode cX5_state 84 = .ok (.aload 4, 2) := by decide +kernel
theorem dX5_state_86 : decode cX5_state 86 = .ok (.getfield 130, 3) := by decide +kernel
theorem dX5_state_89 : decode cX5_state 89 = .ok (.iload_n 2, 1) := by decide +kernel
theorem dX5_state_90 : decode cX5_state 90 = .ok (.iaload, 1) := by decide +kernel
theorem dX5_state_91 : decode cX5_state 91 = .ok (.ireturn, 1) := by decide +kernel
theorem dX5_state_92 : decode cX5_state 92 = .ok (.aload 4, 2) := by decide +kernel
theorem dX5_state_94 : decode cX5_state 94 = .ok (.iload_n 2, 1) := by decide +kernel
theorem dX5_state_95 : decode cX5_state 95 = .ok (.invokevirtual 133, 3) := by decide +kernel
theorem dX5_state_98 : decode cX5_state 98 = .ok (.ireturn, 1) := by decide +kernel
theorem dX5_state_99 : decode cX5_state 99 = .ok (.aload 4, 2) := by decide +kernel
theorem dX5_state_101 : decode cX5_state 101 = .ok (.getfield 137, 3) := by decide +kernel
theorem dX5_state_104 : decode cX5_state 104 = .ok (.iload_n 2, 1) := by decide +kernel
theorem dX5_state_105 : decode cX5_state 105 = .ok (.iaload, 1) := by decide +kernel
theorem dX5_state_106 : decode cX5_state 106 = .ok (.ireturn, 1) := by decide +kernel
theorem dX5_state_107 : decode cX5_state 107 = .ok (.aload 4, 2) := by decide +kernel
theorem dX5_state_109 : decode cX5_state 109 = .ok (.iload_n 2, 1) := by decide +kernel
theorem dX5_state_110 : decode cX5_state 110 = .ok (.invokevirtual 140, 3) := by decide +kernel
theorem dX5_state_113 : decode cX5_state 113 = .ok (.ireturn, 1) := by decide +kernel
theorem dX5_state_114 : decode cX5_state 114 = .ok (.aload 4, 2) := by decide +kernel
theorem dX5_state_116 : decode cX5_state 116 = .ok (.iload_n 2, 1) := by decide +kernel
theorem dX5_state_117 : decode cX5_state 117 = .ok (.invokevirtual 143, 3) := by decide +kernel
theorem dX5_state_120 : decode cX5_state 120 = .ok (.ireturn, 1) := by decide +kernel
theorem dX5_state_121 : decode cX5_state 121 = .ok (.aload 4, 2) := by decide +kernel
theorem dX5_state_123 : decode cX5_state 123 = .ok (.iload_n 2, 1) := by decide +kernel
theorem dX5_state_124 : decode cX5_state 124 = .ok (.invokevirtual 146, 3) := by decide +kernel
theorem dX5_state_127 : decode cX5_state 127 = .ok (.ireturn, 1) := by decide +kernel
theorem dX5_state_128 : decode cX5_state 128 = .ok (.new 73, 3) := by decide +kernel
theorem dX5_state_131 : decode cX5_state 131 = .ok (.dup, 1) := by decide +kernel
theorem dX5_state_132 : decode cX5_state 132 = .ok (.ldc 149, 2) := by decide +kernel
theorem dX5_state_134 : decode cX5_state 134 = .ok (.invokespecial 77, 3) := by decide +kernel
theorem dX5_state_137 : decode cX5_state 137 = .ok (.athrow, 1) := by decide +kernel
theorem dX5_cell_0 : decode cX5_cell 0 = .ok (.aload_n 0, 1) := by decide +kernel
theorem dX5_cell_1 : decode cX5_cell 1 = .ok (.iload_n 1, 1) := by decide +kernel
theorem dX5_cell_2 : decode cX5_cell 2 = .ok (.invokevirtual 93, 3) := by decide +kernel
theorem dX5_cell_5 : decode cX5_cell 5 = .ok (.iload_n 3, 1) := by decide +kernel
theorem dX5_cell_6 : decode cX5_cell 6 = .ok (.invokestatic 114, 3) := by decide +kernel
theorem dX5_cell_9 : decode cX5_cell 9 = .ok (.iload_n 2, 1) := by decide +kernel
theorem dX5_cell_10 : decode cX5_cell 10 = .ok (.iconst 0, 1) := by decide +kernel
theorem dX5_cell_11 : decode cX5_cell 11 = .ok (.bipush 99, 2) := by decide +kernel
theorem dX5_cell_13 : decode cX5_cell 13 = .ok (.invokestatic 97, 3) := by decide +kernel
theorem dX5_cell_16 : decode cX5_cell 16 = .ok (.iload 4, 2) := by decide +kernel
theorem dX5_cell_18 : decode cX5_cell 18 = .ok (.iconst 0, 1) := by decide +kernel
theorem dX5_cell_19 : decode cX5_cell 19 = .ok (.iconst 2, 1) := by decide +kernel
theorem dX5_cell_20 : decode cX5_cell 20 = .ok (.invokestatic 97, 3) := by decide +kernel
theorem dX5_cell_23 : decode cX5_cell 23 = .ok (.aload_n 0, 1) := by decide +kernel
theorem dX5_cell_24 : decode cX5_cell 24 = .ok (.iload_n 1, 1) := by decide +kernel
theorem dX5_cell_25 : decode cX5_cell 25 = .ok (.invokevirtual 120, 3) := by decide +kernel
theorem dX5_cell_28 : decode cX5_cell 28 = .ok (.astore 5, 2) := by decide +kernel
theorem dX5_cell_30 : decode cX5_cell 30 = .ok (.iload 4, 2) := by decide +kernel
theorem dX5_cell_32 : decode cX5_cell 32 = .ok (.iconst 2, 1) := by decide +kernel
theorem dX5_cell_33 : decode cX5_cell 33 = .ok (.if_icmp .ne 25, 3) := by decide +kernel
theorem dX5_cell_36 : decode cX5_cell 36 = .ok (.aload 5, 2) := by decide +kernel
theorem dX5_cell_38 : decode cX5_cell 38 = .ok (.iload_n 3, 1) := by decide +kernel
theorem dX5_cell_39 : decode cX5_cell 39 = .ok (.iload_n 2, 1) := by decide +kernel
theorem dX5_cell_40 : decode cX5_cell 40 = .ok (.invokevirtual 151, 3) := by decide +kernel
theorem dX5_cell_43 : decode cX5_cell 43 = .ok (.ifCond .eq 13, 3) := by decide +kernel
theorem dX5_cell_46 : decode cX5_cell 46 = .ok (.aload 5, 2) := by decide +kernel
theorem dX5_cell_48 : decode cX5_cell 48 = .ok (.getfield 155, 3) := by decide +kernel
theorem dX5_cell_51 : decode cX5_cell 51 = .ok (.iload_n 3, 1) := by decide +kernel
theorem dX5_cell_52 : decode cX5_cell 52 = .ok (.iaload, 1) := by decide +kernel
theorem dX5_cell_53 : decode cX5_cell 53 = .ok (.goto 4, 3) := by decide +kernel
theorem dX5_cell_56 : decode cX5_cell 56 = .ok (.iconst (-1), 1) := by decide +kernel
theorem dX5_cell_57 : decode cX5_cell 57 = .ok (.ireturn, 1) := by decide +kernel
theorem dX5_cell_58 : decode cX5_cell 58 = .ok (.iload_n 2, 1) := by decide +kernel
theorem dX5_cell_59 : decode cX5_cell 59 = .ok (.bipush 8, 2) := by decide +kernel
theorem dX5_cell_61 : decode cX5_cell 61 = .ok (.imul, 1) := by decide +kernel
theorem dX5_cell_62 : decode cX5_cell 62 = .ok (.iload_n 3, 1) := by decide +kernel
theorem dX5_cell_63 : decode cX5_cell 63 = .ok (.iadd, 1) := by decide +kernel
theorem dX5_cell_64 : decode cX5_cell 64 = .ok (.istore 6, 2) := by decide +kernel
theorem dX5_cell_66 : decode cX5_cell 66 = .ok (.iload 4, 2) := by decide +kernel
theorem dX5_cell_68 : decode cX5_cell 68 = .ok (.ifCond .ne 14, 3) := by decide +kernel
theorem dX5_cell_71 : decode cX5_cell 71 = .ok (.aload 5, 2) := by decide +kernel
theorem dX5_cell_73 : decode cX5_cell 73 = .ok (.getfield 158, 3) := by decide +kernel
theorem dX5_cell_76 : decode cX5_cell 76 = .ok (.iload 6, 2) := by decide +kernel
theorem dX5_cell_78 : decode cX5_cell 78 = .ok (.iaload, 1) := by decide +kernel
theorem dX5_cell_79 : decode cX5_cell 79 = .ok (.goto 11, 3) := by decide +kernel
theorem dX5_cell_82 : decode cX5_cell 82 = .ok (.aload 5, 2) := by decide +kernel
theorem dX5_cell_84 : decode cX5_cell 84 = .ok (.getfield 159, 3) := by decide +kernel
theorem dX5_cell_87 : decode cX5_cell 87 = .ok (.iload 6, 2) := by decide +kernel
theorem dX5_cell_89 : decode cX5_cell 89 = .ok (.iaload, 1) := by decide +kernel
theorem dX5_cell_90 : decode cX5_cell 90 = .ok (.ireturn, 1) := by decide +kernel
theorem dX5_run_0 : decode cX5_run 0 = .ok (.aload_n 0, 1) := by decide +kernel
theorem dX5_run_1 : decode cX5_run 1 = .ok (.iload_n 1, 1) := by decide +kernel
theorem dX5_run_2 : decode cX5_run 2 = .ok (.invokevirtual 93, 3) := by decide +kernel
theorem dX5_run_5 : decode cX5_run 5 = .ok (.aload_n 0, 1) := by decide +kernel
theorem dX5_run_6 : decode cX5_run 6 = .ok (.iload_n 1, 1) := by decide +kernel
theorem dX5_run_7 : decode cX5_run 7 = .ok (.invokevirtual 120, 3) := by decide +kernel
theorem dX5_run_10 : decode cX5_run 10 = .ok (.astore_n 3, 1) := by decide +kernel
theorem dX5_run_11 : decode cX5_run 11 = .ok (.iload_n 2, 1) := by decide +kernel
theorem dX5_run_12 : decode cX5_run 12 = .ok (.tableswitch 52 0 3 #[32, 37, 42, 47], 32) := by decide +kernel
theorem dX5_run_44 : decode cX5_run 44 = .ok (.aload_n 3, 1) := by decide +kernel
theorem dX5_run_45 : decode cX5_run 45 = .ok (.getfield 162, 3) := by decide +kernel
theorem dX5_run_48 : decode cX5_run 48 = .ok (.ireturn, 1) := by decide +kernel
theorem dX5_run_49 : decode cX5_run 49 = .ok (.aload_n 3, 1) := by decide +kernel
theorem dX5_run_50 : decode cX5_run 50 = .ok (.getfield 165, 3) := by decide +kernel
theorem dX5_run_53 : decode cX5_run 53 = .ok (.ireturn, 1) := by decide +kernel
theorem dX5_run_54 : decode cX5_run 54 = .ok (.aload_n 3, 1) := by decide +kernel
theorem dX5_run_55 : decode cX5_run 55 = .ok (.getfield 168, 3) := by decide +kernel
theorem dX5_run_58 : decode cX5_run 58 = .ok (.ireturn, 1) := by decide +kernel
theorem dX5_run_59 : decode cX5_run 59 = .ok (.aload_n 3, 1) := by decide +kernel
theorem dX5_run_60 : decode cX5_run 60 = .ok (.getfield 171, 3) := by decide +kernel
theorem dX5_run_63 : decode cX5_run 63 = .ok (.ireturn, 1) := by decide +kernel
theorem dX5_run_64 : decode cX5_run 64 = .ok (.new 73, 3) := by decide +kernel
theorem dX5_run_67 : decode cX5_run 67 = .ok (.dup, 1) := by decide +kernel
theorem dX5_run_68 : decode cX5_run 68 = .ok (.ldc 149, 2) := by decide +kernel
theorem dX5_run_70 : decode cX5_run 70 = .ok (.invokespecial 77, 3) := by decide +kernel
theorem dX5_run_73 : decode cX5_run 73 = .ok (.athrow, 1) := by decide +kernel
theorem dX5_row_0 : decode cX5_row 0 = .ok (.iload_n 1, 1) := by decide +kernel
theorem dX5_row_1 : decode cX5_row 1 = .ok (.iconst 0, 1) := by decide +kernel
theorem dX5_row_2 : decode cX5_row 2 = .ok (.iconst 5, 1) := by decide +kernel
theorem dX5_row_3 : decode cX5_row 3 = .ok (.invokestatic 97, 3) := by decide +kernel
theorem dX5_row_6 : decode cX5_row 6 = .ok (.iload_n 2, 1) := by decide +kernel
theorem dX5_row_7 : decode cX5_row 7 = .ok (.iconst 0, 1) := by decide +kernel
theorem dX5_row_8 : decode cX5_row 8 = .ok (.bipush 99, 2) := by decide +kernel
theorem dX5_row_10 : decode cX5_row 10 = .ok (.invokestatic 97, 3) := by decide +kernel
theorem dX5_row_13 : decode cX5_row 13 = .ok (.iload_n 3, 1) := by decide +kernel
theorem dX5_row_14 : decode cX5_row 14 = .ok (.iconst 0, 1) := by decide +kernel
theorem dX5_row_15 : decode cX5_row 15 = .ok (.bipush 7, 2) := by decide +kernel
theorem dX5_row_17 : decode cX5_row 17 = .ok (.invokestatic 97, 3) := by decide +kernel
theorem dX5_row_20 : decode cX5_row 20 = .ok (.iload_n 1, 1) := by decide +kernel
theorem dX5_row_21 : decode cX5_row 21 = .ok (.iload 4, 2) := by decide +kernel
theorem dX5_row_23 : decode cX5_row 23 = .ok (.invokestatic 174, 3) := by decide +kernel
theorem dX5_row_26 : decode cX5_row 26 = .ok (.iload 5, 2) := by decide +kernel
theorem dX5_row_28 : decode cX5_row 28 = .ok (.iconst 0, 1) := by decide +kernel
theorem dX5_row_29 : decode cX5_row 29 = .ok (.bipush 8, 2) := by decide +kernel
theorem dX5_row_31 : decode cX5_row 31 = .ok (.invokestatic 97, 3) := by decide +kernel
theorem dX5_row_34 : decode cX5_row 34 = .ok (.aload_n 0, 1) := by decide +kernel
theorem dX5_row_35 : decode cX5_row 35 = .ok (.getfield 39, 3) := by decide +kernel
theorem dX5_row_38 : decode cX5_row 38 = .ok (.getfield 177, 3) := by decide +kernel
theorem dX5_row_41 : decode cX5_row 41 = .ok (.istore 6, 2) := by decide +kernel
theorem dX5_row_43 : decode cX5_row 43 = .ok (.iload 6, 2) := by decide +kernel
theorem dX5_row_45 : decode cX5_row 45 = .ok (.bipush 10, 2) := by decide +kernel
theorem dX5_row_47 : decode cX5_row 47 = .ok (.if_icmp .lt 5, 3) := by decide +kernel
theorem dX5_row_50 : decode cX5_row 50 = .ok (.iconst (-1), 1) := by decide +kernel
theorem dX5_row_51 : decode cX5_row 51 = .ok (.ireturn, 1) := by decide +kernel
theorem dX5_row_52 : decode cX5_row 52 = .ok (.aload_n 0, 1) := by decide +kernel
theorem dX5_row_53 : decode cX5_row 53 = .ok (.getfield 39, 3) := by decide +kernel
theorem dX5_row_56 : decode cX5_row 56 = .ok (.getfield 180, 3) := by decide +kernel
theorem dX5_row_59 : decode cX5_row 59 = .ok (.iload 6, 2) := by decide +kernel
theorem dX5_row_61 : decode cX5_row 61 = .ok (.iload_n 1, 1) := by decide +kernel
theorem dX5_row_62 : decode cX5_row 62 = .ok (.iastore, 1) := by decide +kernel
theorem dX5_row_63 : decode cX5_row 63 = .ok (.aload_n 0, 1) := by decide +kernel
theorem dX5_row_64 : decode cX5_row 64 = .ok (.getfield 39, 3) := by decide +kernel
theorem dX5_row_67 : decode cX5_row 67 = .ok (.getfield 183, 3) := by decide +kernel
theorem dX5_row_70 : decode cX5_row 70 = .ok (.iload 6, 2) := by decide +kernel
theorem dX5_row_72 : decode cX5_row 72 = .ok (.iload_n 2, 1) := by decide +kernel
theorem dX5_row_73 : decode cX5_row 73 = .ok (.iastore, 1) := by decide +kernel
theorem dX5_row_74 : decode cX5_row 74 = .ok (.aload_n 0, 1) := by decide +kernel
theorem dX5_row_75 : decode cX5_row 75 = .ok (.getfield 39, 3) := by decide +kernel
theorem dX5_row_78 : decode cX5_row 78 = .ok (.getfield 186, 3) := by decide +kernel
theorem dX5_row_81 : decode cX5_row 81 = .ok (.iload 6, 2) := by decide +kernel
theorem dX5_row_83 : decode cX5_row 83 = .ok (.iload_n 3, 1) := by decide +kernel
theorem dX5_row_84 : decode cX5_row 84 = .ok (.iastore, 1) := by decide +kernel
theorem dX5_row_85 : decode cX5_row 85 = .ok (.aload_n 0, 1) := by decide +kernel
theorem dX5_row_86 : decode cX5_row 86 = .ok (.getfield 39, 3) := by decide +kernel
theorem dX5_row_89 : decode cX5_row 89 = .ok (.getfield 189, 3) := by decide +kernel
theorem dX5_row_92 : decode cX5_row 92 = .ok (.iload 6, 2) := by decide +kernel
theorem dX5_row_94 : decode cX5_row 94 = .ok (.iload 4, 2) := by decide +kernel
theorem dX5_row_96 : decode cX5_row 96 = .ok (.iastore, 1) := by decide +kernel
theorem dX5_row_97 : decode cX5_row 97 = .ok (.aload_n 0, 1) := by decide +kernel
theorem dX5_row_98 : decode cX5_row 98 = .ok (.getfield 39, 3) := by decide +kernel
theorem dX5_row_101 : decode cX5_row 101 = .ok (.getfield 192, 3) := by decide +kernel
theorem dX5_row_104 : decode cX5_row 104 = .ok (.iload 6, 2) := by decide +kernel
theorem dX5_row_106 : decode cX5_row 106 = .ok (.iload 5, 2) := by decide +kernel
theorem dX5_row_108 : decode cX5_row 108 = .ok (.iastore, 1) := by decide +kernel
theorem dX5_row_109 : decode cX5_row 109 = .ok (.aload_n 0, 1) := by decide +kernel
theorem dX5_row_110 : decode cX5_row 110 = .ok (.getfield 39, 3) := by decide +kernel
theorem dX5_row_113 : decode cX5_row 113 = .ok (.getfield 195, 3) := by decide +kernel
theorem dX5_row_116 : decode cX5_row 116 = .ok (.iload 6, 2) := by decide +kernel
theorem dX5_row_118 : decode cX5_row 118 = .ok (.iconst 0, 1) := by decide +kernel
theorem dX5_row_119 : decode cX5_row 119 = .ok (.iastore, 1) := by decide +kernel
theorem dX5_row_120 : decode cX5_row 120 = .ok (.aload_n 0, 1) := by decide +kernel
theorem dX5_row_121 : decode cX5_row 121 = .ok (.getfield 39, 3) := by decide +kernel
theorem dX5_row_124 : decode cX5_row 124 = .ok (.iload 6, 2) := by decide +kernel
theorem dX5_row_126 : decode cX5_row 126 = .ok (.iconst 1, 1) := by decide +kernel
theorem dX5_row_127 : decode cX5_row 127 = .ok (.iadd, 1) := by decide +kernel
theorem dX5_row_128 : decode cX5_row 128 = .ok (.putfield 177, 3) := by decide +kernel
theorem dX5_row_131 : decode cX5_row 131 = .ok (.iload 6, 2) := by decide +kernel
theorem dX5_row_133 : decode cX5_row 133 = .ok (.ireturn, 1) := by decide +kernel
theorem dX5_asked_0 : decode cX5_asked 0 = .ok (.aload_n 0, 1) := by decide +kernel
theorem dX5_asked_1 : decode cX5_asked 1 = .ok (.iload_n 1, 1) := by decide +kernel
theorem dX5_asked_2 : decode cX5_asked 2 = .ok (.invokevirtual 198, 3) := by decide +kernel
theorem dX5_asked_5 : decode cX5_asked 5 = .ok (.iload_n 2, 1) := by decide +kernel
theorem dX5_asked_6 : decode cX5_asked 6 = .ok (.iconst 0, 1) := by decide +kernel
theorem dX5_asked_7 : decode cX5_asked 7 = .ok (.bipush 99, 2) := by decide +kernel
theorem dX5_asked_9 : decode cX5_asked 9 = .ok (.invokestatic 97, 3) := by decide +kernel
theorem dX5_asked_12 : decode cX5_asked 12 = .ok (.aload_n 0, 1) := by decide +kernel
theorem dX5_asked_13 : decode cX5_asked 13 = .ok (.getfield 39, 3) := by decide +kernel
theorem dX5_asked_16 : decode cX5_asked 16 = .ok (.getfield 195, 3) := by decide +kernel
theorem dX5_asked_19 : decode cX5_asked 19 = .ok (.iload_n 1, 1) := by decide +kernel
theorem dX5_asked_20 : decode cX5_asked 20 = .ok (.iload_n 2, 1) := by decide +kernel
theorem dX5_asked_21 : decode cX5_asked 21 = .ok (.iastore, 1) := by decide +kernel
theorem dX5_asked_22 : decode cX5_asked 22 = .ok (.aload_n 0, 1) := by decide +kernel
theorem dX5_asked_23 : decode cX5_asked 23 = .ok (.getfield 39, 3) := by decide +kernel
theorem dX5_asked_26 : decode cX5_asked 26 = .ok (.iload_n 1, 1) := by decide +kernel
theorem dX5_asked_27 : decode cX5_asked 27 = .ok (.invokevirtual 201, 3) := by decide +kernel
theorem dX5_asked_30 : decode cX5_asked 30 = .ok (.ireturn, 1) := by decide +kernel
theorem dX5_says_0 : decode cX5_says 0 = .ok (.aload_n 0, 1) := by decide +kernel
theorem dX5_says_1 : decode cX5_says 1 = .ok (.iload_n 1, 1) := by decide +kernel
theorem dX5_says_2 : decode cX5_says 2 = .ok (.invokevirtual 93, 3) := by decide +kernel
theorem dX5_says_5 : decode cX5_says 5 = .ok (.aload_n 0, 1) := by decide +kernel
theorem dX5_says_6 : decode cX5_says 6 = .ok (.iload_n 2, 1) := by decide +kernel
theorem dX5_says_7 : decode cX5_says 7 = .ok (.invokevirtual 198, 3) := by decide +kernel
theorem dX5_says_10 : decode cX5_says 10 = .ok (.aload_n 0, 1) := by decide +kernel
theorem dX5_says_11 : decode cX5_says 11 = .ok (.aload_n 0, 1) := by decide +kernel
theorem dX5_says_12 : decode cX5_says 12 = .ok (.iload_n 1, 1) := by decide +kernel
theorem dX5_says_13 : decode cX5_says 13 = .ok (.invokevirtual 120, 3) := by decide +kernel
theorem dX5_says_16 : decode cX5_says 16 = .ok (.iload_n 2, 1) := by decide +kernel
theorem dX5_says_17 : decode cX5_says 17 = .ok (.invokevirtual 204, 3) := by decide +kernel
theorem dX5_says_20 : decode cX5_says 20 = .ok (.ireturn, 1) := by decide +kernel
theorem dX5_odds_0 : decode cX5_odds 0 = .ok (.aload_n 0, 1) := by decide +kernel
theorem dX5_odds_1 : decode cX5_odds 1 = .ok (.iload_n 1, 1) := by decide +kernel
theorem dX5_odds_2 : decode cX5_odds 2 = .ok (.invokevirtual 93, 3) := by decide +kernel
theorem dX5_odds_5 : decode cX5_odds 5 = .ok (.aload_n 0, 1) := by decide +kernel
theorem dX5_odds_6 : decode cX5_odds 6 = .ok (.aload_n 0, 1) := by decide +kernel
theorem dX5_odds_7 : decode cX5_odds 7 = .ok (.invokevirtual 208, 3) := by decide +kernel
theorem dX5_odds_10 : decode cX5_odds 10 = .ok (.iconst 1, 1) := by decide +kernel
theorem dX5_odds_11 : decode cX5_odds 11 = .ok (.invokevirtual 212, 3) := by decide +kernel
theorem dX5_odds_14 : decode cX5_odds 14 = .ok (.pop2, 1) := by decide +kernel
theorem dX5_odds_15 : decode cX5_odds 15 = .ok (.aload_n 0, 1) := by decide +kernel
theorem dX5_odds_16 : decode cX5_odds 16 = .ok (.getfield 67, 3) := by decide +kernel
theorem dX5_odds_19 : decode cX5_odds 19 = .ok (.iload_n 1, 1) := by decide +kernel
theorem dX5_odds_20 : decode cX5_odds 20 = .ok (.laload, 1) := by decide +kernel
theorem dX5_odds_21 : decode cX5_odds 21 = .ok (.lreturn, 1) := by decide +kernel
theorem dX5_share_0 : decode cX5_share 0 = .ok (.aload_n 0, 1) := by decide +kernel
theorem dX5_share_1 : decode cX5_share 1 = .ok (.iload_n 1, 1) := by decide +kernel
theorem dX5_share_2 : decode cX5_share 2 = .ok (.invokevirtual 93, 3) := by decide +kernel
theorem dX5_share_5 : decode cX5_share 5 = .ok (.aload_n 0, 1) := by decide +kernel
theorem dX5_share_6 : decode cX5_share 6 = .ok (.iload_n 1, 1) := by decide +kernel
theorem dX5_share_7 : decode cX5_share 7 = .ok (.aload_n 0, 1) := by decide +kernel
theorem dX5_share_8 : decode cX5_share 8 = .ok (.aload_n 0, 1) := by decide +kernel
theorem dX5_share_9 : decode cX5_share 9 = .ok (.invokevirtual 208, 3) := by decide +kernel
theorem dX5_share_12 : decode cX5_share 12 = .ok (.iconst 1, 1) := by decide +kernel
theorem dX5_share_13 : decode cX5_share 13 = .ok (.invokevirtual 212, 3) := by decide +kernel
theorem dX5_share_16 : decode cX5_share 16 = .ok (.invokevirtual 216, 3) := by decide +kernel
theorem dX5_share_19 : decode cX5_share 19 = .ok (.ireturn, 1) := by decide +kernel
theorem dX5_best_0 : decode cX5_best 0 = .ok (.aload_n 0, 1) := by decide +kernel
theorem dX5_best_1 : decode cX5_best 1 = .ok (.aload_n 0, 1) := by decide +kernel
theorem dX5_best_2 : decode cX5_best 2 = .ok (.invokevirtual 208, 3) := by decide +kernel
theorem dX5_best_5 : decode cX5_best 5 = .ok (.iconst 1, 1) := by decide +kernel
theorem dX5_best_6 : decode cX5_best 6 = .ok (.invokevirtual 212, 3) := by decide +kernel
theorem dX5_best_9 : decode cX5_best 9 = .ok (.pop2, 1) := by decide +kernel
theorem dX5_best_10 : decode cX5_best 10 = .ok (.aload_n 0, 1) := by decide +kernel
theorem dX5_best_11 : decode cX5_best 11 = .ok (.invokevirtual 220, 3) := by decide +kernel
theorem dX5_best_14 : decode cX5_best 14 = .ok (.ireturn, 1) := by decide +kernel
theorem dX5_moved_0 : decode cX5_moved 0 = .ok (.aload_n 0, 1) := by decide +kernel
theorem dX5_moved_1 : decode cX5_moved 1 = .ok (.iload_n 1, 1) := by decide +kernel
theorem dX5_moved_2 : decode cX5_moved 2 = .ok (.invokevirtual 93, 3) := by decide +kernel
theorem dX5_moved_5 : decode cX5_moved 5 = .ok (.aload_n 0, 1) := by decide +kernel
theorem dX5_moved_6 : decode cX5_moved 6 = .ok (.iload_n 2, 1) := by decide +kernel
theorem dX5_moved_7 : decode cX5_moved 7 = .ok (.invokevirtual 198, 3) := by decide +kernel
theorem dX5_moved_10 : decode cX5_moved 10 = .ok (.aload_n 0, 1) := by decide +kernel
theorem dX5_moved_11 : decode cX5_moved 11 = .ok (.iload_n 1, 1) := by decide +kernel
theorem dX5_moved_12 : decode cX5_moved 12 = .ok (.aload_n 0, 1) := by decide +kernel
theorem dX5_moved_13 : decode cX5_moved 13 = .ok (.aload_n 0, 1) := by decide +kernel
theorem dX5_moved_14 : decode cX5_moved 14 = .ok (.invokevirtual 208, 3) := by decide +kernel
theorem dX5_moved_17 : decode cX5_moved 17 = .ok (.iconst 1, 1) := by decide +kernel
theorem dX5_moved_18 : decode cX5_moved 18 = .ok (.invokevirtual 212, 3) := by decide +kernel
theorem dX5_moved_21 : decode cX5_moved 21 = .ok (.invokevirtual 216, 3) := by decide +kernel
theorem dX5_moved_24 : decode cX5_moved 24 = .ok (.istore_n 3, 1) := by decide +kernel
theorem dX5_moved_25 : decode cX5_moved 25 = .ok (.aload_n 0, 1) := by decide +kernel
theorem dX5_moved_26 : decode cX5_moved 26 = .ok (.iload_n 1, 1) := by decide +kernel
theorem dX5_moved_27 : decode cX5_moved 27 = .ok (.aload_n 0, 1) := by decide +kernel
theorem dX5_moved_28 : decode cX5_moved 28 = .ok (.aload_n 0, 1) := by decide +kernel
theorem dX5_moved_29 : decode cX5_moved 29 = .ok (.invokevirtual 208, 3) := by decide +kernel
theorem dX5_moved_32 : decode cX5_moved 32 = .ok (.iconst 1, 1) := by decide +kernel
theorem dX5_moved_33 : decode cX5_moved 33 = .ok (.iload_n 2, 1) := by decide +kernel
theorem dX5_moved_34 : decode cX5_moved 34 = .ok (.ishl, 1) := by decide +kernel
theorem dX5_moved_35 : decode cX5_moved 35 = .ok (.iconst (-1), 1) := by decide +kernel
theorem dX5_moved_36 : decode cX5_moved 36 = .ok (.ixor, 1) := by decide +kernel
theorem dX5_moved_37 : decode cX5_moved 37 = .ok (.iand, 1) := by decide +kernel
theorem dX5_moved_38 : decode cX5_moved 38 = .ok (.iconst 1, 1) := by decide +kernel
theorem dX5_moved_39 : decode cX5_moved 39 = .ok (.invokevirtual 212, 3) := by decide +kernel
theorem dX5_moved_42 : decode cX5_moved 42 = .ok (.invokevirtual 216, 3) := by decide +kernel
theorem dX5_moved_45 : decode cX5_moved 45 = .ok (.istore 4, 2) := by decide +kernel
theorem dX5_moved_47 : decode cX5_moved 47 = .ok (.iload_n 3, 1) := by decide +kernel
theorem dX5_moved_48 : decode cX5_moved 48 = .ok (.iload 4, 2) := by decide +kernel
theorem dX5_moved_50 : decode cX5_moved 50 = .ok (.isub, 1) := by decide +kernel
theorem dX5_moved_51 : decode cX5_moved 51 = .ok (.ireturn, 1) := by decide +kernel
theorem dX5_inquiry_0 : decode cX5_inquiry 0 = .ok (.iload_n 2, 1) := by decide +kernel
theorem dX5_inquiry_1 : decode cX5_inquiry 1 = .ok (.iconst (-1), 1) := by decide +kernel
theorem dX5_inquiry_2 : decode cX5_inquiry 2 = .ok (.if_icmp .eq 8, 3) := by decide +kernel
theorem dX5_inquiry_5 : decode cX5_inquiry 5 = .ok (.aload_n 0, 1) := by decide +kernel
theorem dX5_inquiry_6 : decode cX5_inquiry 6 = .ok (.iload_n 2, 1) := by decide +kernel
theorem dX5_inquiry_7 : decode cX5_inquiry 7 = .ok (.invokevirtual 93, 3) := by decide +kernel
theorem dX5_inquiry_10 : decode cX5_inquiry 10 = .ok (.iload_n 1, 1) := by decide +kernel
theorem dX5_inquiry_11 : decode cX5_inquiry 11 = .ok (.aload_n 0, 1) := by decide +kernel
theorem dX5_inquiry_12 : decode cX5_inquiry 12 = .ok (.getfield 39, 3) := by decide +kernel
theorem dX5_inquiry_15 : decode cX5_inquiry 15 = .ok (.getfield 177, 3) := by decide +kernel
theorem dX5_inquiry_18 : decode cX5_inquiry 18 = .ok (.invokestatic 223, 3) := by decide +kernel
theorem dX5_inquiry_21 : decode cX5_inquiry 21 = .ok (.aload_n 0, 1) := by decide +kernel
theorem dX5_inquiry_22 : decode cX5_inquiry 22 = .ok (.iload_n 1, 1) := by decide +kernel
theorem dX5_inquiry_23 : decode cX5_inquiry 23 = .ok (.iconst 0, 1) := by decide +kernel
theorem dX5_inquiry_24 : decode cX5_inquiry 24 = .ok (.invokevirtual 212, 3) := by decide +kernel
theorem dX5_inquiry_27 : decode cX5_inquiry 27 = .ok (.lstore_n 3, 1) := by decide +kernel
theorem dX5_inquiry_28 : decode cX5_inquiry 28 = .ok (.iload_n 2, 1) := by decide +kernel
theorem dX5_inquiry_29 : decode cX5_inquiry 29 = .ok (.iconst (-1), 1) := by decide +kernel
theorem dX5_inquiry_30 : decode cX5_inquiry 30 = .ok (.if_icmp .ne 10, 3) := by decide +kernel
theorem dX5_inquiry_33 : decode cX5_inquiry 33 = .ok (.aload_n 0, 1) := by decide +kernel
theorem dX5_inquiry_34 : decode cX5_inquiry 34 = .ok (.invokevirtual 220, 3) := by decide +kernel
theorem dX5_inquiry_37 : decode cX5_inquiry 37 = .ok (.goto 9, 3) := by decide +kernel
theorem dX5_inquiry_40 : decode cX5_inquiry 40 = .ok (.aload_n 0, 1) := by decide +kernel
theorem dX5_inquiry_41 : decode cX5_inquiry 41 = .ok (.iload_n 2, 1) := by decide +kernel
theorem dX5_inquiry_42 : decode cX5_inquiry 42 = .ok (.lload_n 3, 1) := by decide +kernel
theorem dX5_inquiry_43 : decode cX5_inquiry 43 = .ok (.invokevirtual 216, 3) := by decide +kernel
theorem dX5_inquiry_46 : decode cX5_inquiry 46 = .ok (.ireturn, 1) := by decide +kernel
theorem dX5_before_0 : decode cX5_before 0 = .ok (.iconst 0, 1) := by decide +kernel
theorem dX5_before_1 : decode cX5_before 1 = .ok (.iload_n 1, 1) := by decide +kernel
theorem dX5_before_2 : decode cX5_before 2 = .ok (.invokestatic 104, 3) := by decide +kernel
theorem dX5_before_5 : decode cX5_before 5 = .ok (.iconst 2, 1) := by decide +kernel
theorem dX5_before_6 : decode cX5_before 6 = .ok (.iload_n 2, 1) := by decide +kernel
theorem dX5_before_7 : decode cX5_before 7 = .ok (.invokestatic 104, 3) := by decide +kernel
theorem dX5_before_10 : decode cX5_before 10 = .ok (.aload_n 0, 1) := by decide +kernel
theorem dX5_before_11 : decode cX5_before 11 = .ok (.getfield 39, 3) := by decide +kernel
theorem dX5_before_14 : decode cX5_before 14 = .ok (.getfield 226, 3) := by decide +kernel
theorem dX5_before_17 : decode cX5_before 17 = .ok (.istore_n 3, 1) := by decide +kernel
theorem dX5_before_18 : decode cX5_before 18 = .ok (.iload_n 3, 1) := by decide +kernel
theorem dX5_before_19 : decode cX5_before 19 = .ok (.bipush 10, 2) := by decide +kernel
theorem dX5_before_21 : decode cX5_before 21 = .ok (.if_icmp .lt 5, 3) := by decide +kernel
theorem dX5_before_24 : decode cX5_before 24 = .ok (.iconst (-1), 1) := by decide +kernel
theorem dX5_before_25 : decode cX5_before 25 = .ok (.ireturn, 1) := by decide +kernel
theorem dX5_before_26 : decode cX5_before 26 = .ok (.aload_n 0, 1) := by decide +kernel
theorem dX5_before_27 : decode cX5_before 27 = .ok (.getfield 39, 3) := by decide +kernel
theorem dX5_before_30 : decode cX5_before 30 = .ok (.getfield 229, 3) := by decide +kernel
theorem dX5_before_33 : decode cX5_before 33 = .ok (.iload_n 3, 1) := by decide +kernel
theorem dX5_before_34 : decode cX5_before 34 = .ok (.iload_n 1, 1) := by decide +kernel
theorem dX5_before_35 : decode cX5_before 35 = .ok (.iastore, 1) := by decide +kernel
theorem dX5_before_36 : decode cX5_before 36 = .ok (.aload_n 0, 1) := by decide +kernel
theorem dX5_before_37 : decode cX5_before 37 = .ok (.getfield 39, 3) := by decide +kernel
theorem dX5_before_40 : decode cX5_before 40 = .ok (.getfield 232, 3) := by decide +kernel
theorem dX5_before_43 : decode cX5_before 43 = .ok (.iload_n 3, 1) := by decide +kernel
theorem dX5_before_44 : decode cX5_before 44 = .ok (.iload_n 2, 1) := by decide +kernel
theorem dX5_before_45 : decode cX5_before 45 = .ok (.iastore, 1) := by decide +kernel
theorem dX5_before_46 : decode cX5_before 46 = .ok (.aload_n 0, 1) := by decide +kernel
theorem dX5_before_47 : decode cX5_before 47 = .ok (.getfield 39, 3) := by decide +kernel
theorem dX5_before_50 : decode cX5_before 50 = .ok (.iload_n 3, 1) := by decide +kernel
theorem dX5_before_51 : decode cX5_before 51 = .ok (.iconst 1, 1) := by decide +kernel
theorem dX5_before_52 : decode cX5_before 52 = .ok (.iadd, 1) := by decide +kernel
theorem dX5_before_53 : decode cX5_before 53 = .ok (.putfield 226, 3) := by decide +kernel
theorem dX5_before_56 : decode cX5_before 56 = .ok (.aload_n 0, 1) := by decide +kernel
theorem dX5_before_57 : decode cX5_before 57 = .ok (.invokevirtual 235, 3) := by decide +kernel
theorem dX5_before_60 : decode cX5_before 60 = .ok (.aload_n 0, 1) := by decide +kernel
theorem dX5_before_61 : decode cX5_before 61 = .ok (.getfield 39, 3) := by decide +kernel
theorem dX5_before_64 : decode cX5_before 64 = .ok (.getfield 226, 3) := by decide +kernel
theorem dX5_before_67 : decode cX5_before 67 = .ok (.ireturn, 1) := by decide +kernel
theorem dX5_burnt_0 : decode cX5_burnt 0 = .ok (.aload_n 0, 1) := by decide +kernel
theorem dX5_burnt_1 : decode cX5_burnt 1 = .ok (.iload_n 1, 1) := by decide +kernel
theorem dX5_burnt_2 : decode cX5_burnt 2 = .ok (.invokevirtual 93, 3) := by decide +kernel
theorem dX5_burnt_5 : decode cX5_burnt 5 = .ok (.aload_n 0, 1) := by decide +kernel
theorem dX5_burnt_6 : decode cX5_burnt 6 = .ok (.iload_n 1, 1) := by decide +kernel
theorem dX5_burnt_7 : decode cX5_burnt 7 = .ok (.invokevirtual 238, 3) := by decide +kernel
theorem dX5_burnt_10 : decode cX5_burnt 10 = .ok (.ireturn, 1) := by decide +kernel
theorem dX5_option_0 : decode cX5_option 0 = .ok (.iload_n 1, 1) := by decide +kernel
theorem dX5_option_1 : decode cX5_option 1 = .ok (.iload_n 2, 1) := by decide +kernel
theorem dX5_option_2 : decode cX5_option 2 = .ok (.invokestatic 104, 3) := by decide +kernel
theorem dX5_option_5 : decode cX5_option 5 = .ok (.iload_n 3, 1) := by decide +kernel
theorem dX5_option_6 : decode cX5_option 6 = .ok (.iconst 0, 1) := by decide +kernel
theorem dX5_option_7 : decode cX5_option 7 = .ok (.sipush 999, 3) := by decide +kernel
theorem dX5_option_10 : decode cX5_option 10 = .ok (.invokestatic 97, 3) := by decide +kernel
theorem dX5_option_13 : decode cX5_option 13 = .ok (.aload_n 0, 1) := by decide +kernel
theorem dX5_option_14 : decode cX5_option 14 = .ok (.getfield 39, 3) := by decide +kernel
theorem dX5_option_17 : decode cX5_option 17 = .ok (.getfield 241, 3) := by decide +kernel
theorem dX5_option_20 : decode cX5_option 20 = .ok (.istore 4, 2) := by decide +kernel
theorem dX5_option_22 : decode cX5_option 22 = .ok (.iload 4, 2) := by decide +kernel
theorem dX5_option_24 : decode cX5_option 24 = .ok (.iconst 5, 1) := by decide +kernel
theorem dX5_option_25 : decode cX5_option 25 = .ok (.if_icmp .lt 5, 3) := by decide +kernel
theorem dX5_option_28 : decode cX5_option 28 = .ok (.iconst (-1), 1) := by decide +kernel
theorem dX5_option_29 : decode cX5_option 29 = .ok (.ireturn, 1) := by decide +kernel
theorem dX5_option_30 : decode cX5_option 30 = .ok (.aload_n 0, 1) := by decide +kernel
theorem dX5_option_31 : decode cX5_option 31 = .ok (.getfield 39, 3) := by decide +kernel
theorem dX5_option_34 : decode cX5_option 34 = .ok (.getfield 244, 3) := by decide +kernel
theorem dX5_option_37 : decode cX5_option 37 = .ok (.iload 4, 2) := by decide +kernel
theorem dX5_option_39 : decode cX5_option 39 = .ok (.iload_n 1, 1) := by decide +kernel
theorem dX5_option_40 : decode cX5_option 40 = .ok (.iastore, 1) := by decide +kernel
theorem dX5_option_41 : decode cX5_option 41 = .ok (.aload_n 0, 1) := by decide +kernel
theorem dX5_option_42 : decode cX5_option 42 = .ok (.getfield 39, 3) := by decide +kernel
theorem dX5_option_45 : decode cX5_option 45 = .ok (.getfield 247, 3) := by decide +kernel
theorem dX5_option_48 : decode cX5_option 48 = .ok (.iload 4, 2) := by decide +kernel
theorem dX5_option_50 : decode cX5_option 50 = .ok (.iload_n 2, 1) := by decide +kernel
theorem dX5_option_51 : decode cX5_option 51 = .ok (.iastore, 1) := by decide +kernel
theorem dX5_option_52 : decode cX5_option 52 = .ok (.aload_n 0, 1) := by decide +kernel
theorem dX5_option_53 : decode cX5_option 53 = .ok (.getfield 39, 3) := by decide +kernel
theorem dX5_option_56 : decode cX5_option 56 = .ok (.getfield 250, 3) := by decide +kernel
theorem dX5_option_59 : decode cX5_option 59 = .ok (.iload 4, 2) := by decide +kernel
theorem dX5_option_61 : decode cX5_option 61 = .ok (.iload_n 3, 1) := by decide +kernel
theorem dX5_option_62 : decode cX5_option 62 = .ok (.iastore, 1) := by decide +kernel
theorem dX5_option_63 : decode cX5_option 63 = .ok (.aload_n 0, 1) := by decide +kernel
theorem dX5_option_64 : decode cX5_option 64 = .ok (.getfield 39, 3) := by decide +kernel
theorem dX5_option_67 : decode cX5_option 67 = .ok (.iload 4, 2) := by decide +kernel
theorem dX5_option_69 : decode cX5_option 69 = .ok (.iconst 1, 1) := by decide +kernel
theorem dX5_option_70 : decode cX5_option 70 = .ok (.iadd, 1) := by decide +kernel
theorem dX5_option_71 : decode cX5_option 71 = .ok (.putfield 241, 3) := by decide +kernel
theorem dX5_option_74 : decode cX5_option 74 = .ok (.iload 4, 2) := by decide +kernel
theorem dX5_option_76 : decode cX5_option 76 = .ok (.ireturn, 1) := by decide +kernel
theorem dX5_safe_0 : decode cX5_safe 0 = .ok (.aload_n 0, 1) := by decide +kernel
theorem dX5_safe_1 : decode cX5_safe 1 = .ok (.iload_n 1, 1) := by decide +kernel
theorem dX5_safe_2 : decode cX5_safe 2 = .ok (.invokevirtual 93, 3) := by decide +kernel
theorem dX5_safe_5 : decode cX5_safe 5 = .ok (.iload_n 2, 1) := by decide +kernel
theorem dX5_safe_6 : decode cX5_safe 6 = .ok (.aload_n 0, 1) := by decide +kernel
theorem dX5_safe_7 : decode cX5_safe 7 = .ok (.getfield 39, 3) := by decide +kernel
theorem dX5_safe_10 : decode cX5_safe 10 = .ok (.getfield 241, 3) := by decide +kernel
theorem dX5_safe_13 : decode cX5_safe 13 = .ok (.invokestatic 223, 3) := by decide +kernel
theorem dX5_safe_16 : decode cX5_safe 16 = .ok (.iload_n 3, 1) := by decide +kernel
theorem dX5_safe_17 : decode cX5_safe 17 = .ok (.iconst 0, 1) := by decide +kernel
theorem dX5_safe_18 : decode cX5_safe 18 = .ok (.bipush 99, 2) := by decide +kernel
theorem dX5_safe_20 : decode cX5_safe 20 = .ok (.invokestatic 97, 3) := by decide +kernel
theorem dX5_safe_23 : decode cX5_safe 23 = .ok (.aload_n 0, 1) := by decide +kernel
theorem dX5_safe_24 : decode cX5_safe 24 = .ok (.iload_n 1, 1) := by decide +kernel
theorem dX5_safe_25 : decode cX5_safe 25 = .ok (.iload_n 1, 1) := by decide +kernel
theorem dX5_safe_26 : decode cX5_safe 26 = .ok (.iload_n 2, 1) := by decide +kernel
theorem dX5_safe_27 : decode cX5_safe 27 = .ok (.iload_n 3, 1) := by decide +kernel
theorem dX5_safe_28 : decode cX5_safe 28 = .ok (.invokevirtual 253, 3) := by decide +kernel
theorem dX5_safe_31 : decode cX5_safe 31 = .ok (.ireturn, 1) := by decide +kernel
theorem dX5_least_0 : decode cX5_least 0 = .ok (.aload_n 0, 1) := by decide +kernel
theorem dX5_least_1 : decode cX5_least 1 = .ok (.iload_n 1, 1) := by decide +kernel
theorem dX5_least_2 : decode cX5_least 2 = .ok (.invokevirtual 93, 3) := by decide +kernel
theorem dX5_least_5 : decode cX5_least 5 = .ok (.iload_n 2, 1) := by decide +kernel
theorem dX5_least_6 : decode cX5_least 6 = .ok (.iconst 0, 1) := by decide +kernel
theorem dX5_least_7 : decode cX5_least 7 = .ok (.bipush 99, 2) := by decide +kernel
theorem dX5_least_9 : decode cX5_least 9 = .ok (.invokestatic 97, 3) := by decide +kernel
theorem dX5_least_12 : decode cX5_least 12 = .ok (.aload_n 0, 1) := by decide +kernel
theorem dX5_least_13 : decode cX5_least 13 = .ok (.iload_n 1, 1) := by decide +kernel
theorem dX5_least_14 : decode cX5_least 14 = .ok (.iload_n 1, 1) := by decide +kernel
theorem dX5_least_15 : decode cX5_least 15 = .ok (.iload_n 2, 1) := by decide +kernel
theorem dX5_least_16 : decode cX5_least 16 = .ok (.invokevirtual 257, 3) := by decide +kernel
theorem dX5_least_19 : decode cX5_least 19 = .ok (.ireturn, 1) := by decide +kernel
theorem dX5_all_0 : decode cX5_all 0 = .ok (.iload_n 1, 1) := by decide +kernel
theorem dX5_all_1 : decode cX5_all 1 = .ok (.iconst 0, 1) := by decide +kernel
theorem dX5_all_2 : decode cX5_all 2 = .ok (.bipush 99, 2) := by decide +kernel
theorem dX5_all_4 : decode cX5_all 4 = .ok (.invokestatic 97, 3) := by decide +kernel
theorem dX5_all_7 : decode cX5_all 7 = .ok (.aload_n 0, 1) := by decide +kernel
theorem dX5_all_8 : decode cX5_all 8 = .ok (.iconst 0, 1) := by decide +kernel
theorem dX5_all_9 : decode cX5_all 9 = .ok (.aload_n 0, 1) := by decide +kernel
theorem dX5_all_10 : decode cX5_all 10 = .ok (.getfield 33, 3) := by decide +kernel
theorem dX5_all_13 : decode cX5_all 13 = .ok (.iconst 1, 1) := by decide +kernel
theorem dX5_all_14 : decode cX5_all 14 = .ok (.isub, 1) := by decide +kernel
theorem dX5_all_15 : decode cX5_all 15 = .ok (.iload_n 1, 1) := by decide +kernel
theorem dX5_all_16 : decode cX5_all 16 = .ok (.invokevirtual 257, 3) := by decide +kernel
theorem dX5_all_19 : decode cX5_all 19 = .ok (.ireturn, 1) := by decide +kernel
theorem dX5_next_0 : decode cX5_next 0 = .ok (.iload_n 1, 1) := by decide +kernel
theorem dX5_next_1 : decode cX5_next 1 = .ok (.iconst 0, 1) := by decide +kernel
theorem dX5_next_2 : decode cX5_next 2 = .ok (.bipush 99, 2) := by decide +kernel
theorem dX5_next_4 : decode cX5_next 4 = .ok (.invokestatic 97, 3) := by decide +kernel
theorem dX5_next_7 : decode cX5_next 7 = .ok (.aload_n 0, 1) := by decide +kernel
theorem dX5_next_8 : decode cX5_next 8 = .ok (.getfield 33, 3) := by decide +kernel
theorem dX5_next_11 : decode cX5_next 11 = .ok (.ifCond .ne 5, 3) := by decide +kernel
theorem dX5_next_14 : decode cX5_next 14 = .ok (.iconst (-1), 1) := by decide +kernel
theorem dX5_next_15 : decode cX5_next 15 = .ok (.ireturn, 1) := by decide +kernel
theorem dX5_next_16 : decode cX5_next 16 = .ok (.aload_n 0, 1) := by decide +kernel
theorem dX5_next_17 : decode cX5_next 17 = .ok (.aload_n 0, 1) := by decide +kernel
theorem dX5_next_18 : decode cX5_next 18 = .ok (.invokevirtual 208, 3) := by decide +kernel
theorem dX5_next_21 : decode cX5_next 21 = .ok (.iconst 1, 1) := by decide +kernel
theorem dX5_next_22 : decode cX5_next 22 = .ok (.invokevirtual 212, 3) := by decide +kernel
theorem dX5_next_25 : decode cX5_next 25 = .ok (.lstore_n 2, 1) := by decide +kernel
theorem dX5_next_26 : decode cX5_next 26 = .ok (.iconst (-1), 1) := by decide +kernel
theorem dX5_next_27 : decode cX5_next 27 = .ok (.istore 4, 2) := by decide +kernel
theorem dX5_next_29 : decode cX5_next 29 = .ok (.lconst 0, 1) := by decide +kernel
theorem dX5_next_30 : decode cX5_next 30 = .ok (.lstore 5, 2) := by decide +kernel
theorem dX5_next_32 : decode cX5_next 32 = .ok (.iconst 0, 1) := by decide +kernel
theorem dX5_next_33 : decode cX5_next 33 = .ok (.istore 7, 2) := by decide +kernel
theorem dX5_next_35 : decode cX5_next 35 = .ok (.iload 7, 2) := by decide +kernel
theorem dX5_next_37 : decode cX5_next 37 = .ok (.bipush 8, 2) := by decide +kernel
theorem dX5_next_39 : decode cX5_next 39 = .ok (.if_icmp .ge 51, 3) := by decide +kernel
theorem dX5_next_42 : decode cX5_next 42 = .ok (.aload_n 0, 1) := by decide +kernel
theorem dX5_next_43 : decode cX5_next 43 = .ok (.iload 7, 2) := by decide +kernel
theorem dX5_next_45 : decode cX5_next 45 = .ok (.iload_n 1, 1) := by decide +kernel
theorem dX5_next_46 : decode cX5_next 46 = .ok (.invokevirtual 261, 3) := by decide +kernel
theorem dX5_next_49 : decode cX5_next 49 = .ok (.lstore 8, 2) := by decide +kernel
theorem dX5_next_51 : decode cX5_next 51 = .ok (.lload 8, 2) := by decide +kernel
theorem dX5_next_53 : decode cX5_next 53 = .ok (.lload_n 2, 1) := by decide +kernel
theorem dX5_next_54 : decode cX5_next 54 = .ok (.lload 8, 2) := by decide +kernel
theorem dX5_next_56 : decode cX5_next 56 = .ok (.lsub, 1) := by decide +kernel
theorem dX5_next_57 : decode cX5_next 57 = .ok (.invokestatic 265, 3) := by decide +kernel
theorem dX5_next_60 : decode cX5_next 60 = .ok (.lstore 10, 2) := by decide +kernel
theorem dX5_next_62 : decode cX5_next 62 = .ok (.iload 4, 2) := by decide +kernel
theorem dX5_next_64 : decode cX5_next 64 = .ok (.iconst (-1), 1) := by decide +kernel
theorem dX5_next_65 : decode cX5_next 65 = .ok (.if_icmp .eq 11, 3) := by decide +kernel
theorem dX5_next_68 : decode cX5_next 68 = .ok (.lload 10, 2) := by decide +kernel
theorem dX5_next_70 : decode cX5_next 70 = .ok (.lload 5, 2) := by decide +kernel
theorem dX5_next_72 : decode cX5_next 72 = .ok (.lcmp, 1) := by decide +kernel
theorem dX5_next_73 : decode cX5_next 73 = .ok (.ifCond .ge 11, 3) := by decide +kernel
theorem dX5_next_76 : decode cX5_next 76 = .ok (.iload 7, 2) := by decide +kernel
theorem dX5_next_78 : decode cX5_next 78 = .ok (.istore 4, 2) := by decide +kernel
theorem dX5_next_80 : decode cX5_next 80 = .ok (.lload 10, 2) := by decide +kernel
theorem dX5_next_82 : decode cX5_next 82 = .ok (.lstore 5, 2) := by decide +kernel
theorem dX5_next_84 : decode cX5_next 84 = .ok (.iinc 7 1, 3) := by decide +kernel
theorem dX5_next_87 : decode cX5_next 87 = .ok (.goto (-52), 3) := by decide +kernel
theorem dX5_next_90 : decode cX5_next 90 = .ok (.iload 4, 2) := by decide +kernel
theorem dX5_next_92 : decode cX5_next 92 = .ok (.ireturn, 1) := by decide +kernel
theorem dX5_parted_0 : decode cX5_parted 0 = .ok (.aload_n 0, 1) := by decide +kernel
theorem dX5_parted_1 : decode cX5_parted 1 = .ok (.iload_n 1, 1) := by decide +kernel
theorem dX5_parted_2 : decode cX5_parted 2 = .ok (.invokevirtual 93, 3) := by decide +kernel
theorem dX5_parted_5 : decode cX5_parted 5 = .ok (.aload_n 0, 1) := by decide +kernel
theorem dX5_parted_6 : decode cX5_parted 6 = .ok (.iload_n 2, 1) := by decide +kernel
theorem dX5_parted_7 : decode cX5_parted 7 = .ok (.invokevirtual 93, 3) := by decide +kernel
theorem dX5_parted_10 : decode cX5_parted 10 = .ok (.aload_n 0, 1) := by decide +kernel
theorem dX5_parted_11 : decode cX5_parted 11 = .ok (.iload_n 1, 1) := by decide +kernel
theorem dX5_parted_12 : decode cX5_parted 12 = .ok (.invokevirtual 120, 3) := by decide +kernel
theorem dX5_parted_15 : decode cX5_parted 15 = .ok (.astore_n 3, 1) := by decide +kernel
theorem dX5_parted_16 : decode cX5_parted 16 = .ok (.aload_n 0, 1) := by decide +kernel
theorem dX5_parted_17 : decode cX5_parted 17 = .ok (.iload_n 2, 1) := by decide +kernel
theorem dX5_parted_18 : decode cX5_parted 18 = .ok (.invokevirtual 120, 3) := by decide +kernel
theorem dX5_parted_21 : decode cX5_parted 21 = .ok (.astore 4, 2) := by decide +kernel
theorem dX5_parted_23 : decode cX5_parted 23 = .ok (.iconst 0, 1) := by decide +kernel
theorem dX5_parted_24 : decode cX5_parted 24 = .ok (.istore 5, 2) := by decide +kernel
theorem dX5_parted_26 : decode cX5_parted 26 = .ok (.iload 5, 2) := by decide +kernel
theorem dX5_parted_28 : decode cX5_parted 28 = .ok (.bipush 100, 2) := by decide +kernel
theorem dX5_parted_30 : decode cX5_parted 30 = .ok (.if_icmp .ge 23, 3) := by decide +kernel
theorem dX5_parted_33 : decode cX5_parted 33 = .ok (.aload_n 3, 1) := by decide +kernel
theorem dX5_parted_34 : decode cX5_parted 34 = .ok (.aload 4, 2) := by decide +kernel
theorem dX5_parted_36 : decode cX5_parted 36 = .ok (.iload 5, 2) := by decide +kernel
theorem dX5_parted_38 : decode cX5_parted 38 = .ok (.invokestatic 271, 3) := by decide +kernel
theorem dX5_parted_41 : decode cX5_parted 41 = .ok (.ifCond .ne 6, 3) := by decide +kernel
theorem dX5_parted_44 : decode cX5_parted 44 = .ok (.iload 5, 2) := by decide +kernel
theorem dX5_parted_46 : decode cX5_parted 46 = .ok (.ireturn, 1) := by decide +kernel
theorem dX5_parted_47 : decode cX5_parted 47 = .ok (.iinc 5 1, 3) := by decide +kernel
theorem dX5_parted_50 : decode cX5_parted 50 = .ok (.goto (-24), 3) := by decide +kernel
theorem dX5_parted_53 : decode cX5_parted 53 = .ok (.iconst (-1), 1) := by decide +kernel
theorem dX5_parted_54 : decode cX5_parted 54 = .ok (.ireturn, 1) := by decide +kernel
theorem dX5_order_0 : decode cX5_order 0 = .ok (.aload_n 0, 1) := by decide +kernel
theorem dX5_order_1 : decode cX5_order 1 = .ok (.iload_n 1, 1) := by decide +kernel
theorem dX5_order_2 : decode cX5_order 2 = .ok (.invokevirtual 93, 3) := by decide +kernel
theorem dX5_order_5 : decode cX5_order 5 = .ok (.aload_n 0, 1) := by decide +kernel
theorem dX5_order_6 : decode cX5_order 6 = .ok (.iload_n 1, 1) := by decide +kernel
theorem dX5_order_7 : decode cX5_order 7 = .ok (.invokevirtual 120, 3) := by decide +kernel
theorem dX5_order_10 : decode cX5_order 10 = .ok (.astore_n 3, 1) := by decide +kernel
theorem dX5_order_11 : decode cX5_order 11 = .ok (.iconst 0, 1) := by decide +kernel
theorem dX5_order_12 : decode cX5_order 12 = .ok (.istore 4, 2) := by decide +kernel
theorem dX5_order_14 : decode cX5_order 14 = .ok (.iload 4, 2) := by decide +kernel
theorem dX5_order_16 : decode cX5_order 16 = .ok (.bipush 8, 2) := by decide +kernel
theorem dX5_order_18 : decode cX5_order 18 = .ok (.if_icmp .ge 33, 3) := by decide +kernel
theorem dX5_order_21 : decode cX5_order 21 = .ok (.aload_n 3, 1) := by decide +kernel
theorem dX5_order_22 : decode cX5_order 22 = .ok (.getfield 155, 3) := by decide +kernel
theorem dX5_order_25 : decode cX5_order 25 = .ok (.iload 4, 2) := by decide +kernel
theorem dX5_order_27 : decode cX5_order 27 = .ok (.iaload, 1) := by decide +kernel
theorem dX5_order_28 : decode cX5_order 28 = .ok (.iconst (-1), 1) := by decide +kernel
theorem dX5_order_29 : decode cX5_order 29 = .ok (.if_icmp .eq 16, 3) := by decide +kernel
theorem dX5_order_32 : decode cX5_order 32 = .ok (.aload_n 3, 1) := by decide +kernel
theorem dX5_order_33 : decode cX5_order 33 = .ok (.iload 4, 2) := by decide +kernel
theorem dX5_order_35 : decode cX5_order 35 = .ok (.invokevirtual 275, 3) := by decide +kernel
theorem dX5_order_38 : decode cX5_order 38 = .ok (.iload_n 2, 1) := by decide +kernel
theorem dX5_order_39 : decode cX5_order 39 = .ok (.if_icmp .ne 6, 3) := by decide +kernel
theorem dX5_order_42 : decode cX5_order 42 = .ok (.iload 4, 2) := by decide +kernel
theorem dX5_order_44 : decode cX5_order 44 = .ok (.ireturn, 1) := by decide +kernel
theorem dX5_order_45 : decode cX5_order 45 = .ok (.iinc 4 1, 3) := by decide +kernel
theorem dX5_order_48 : decode cX5_order 48 = .ok (.goto (-34), 3) := by decide +kernel
theorem dX5_order_51 : decode cX5_order 51 = .ok (.iconst (-1), 1) := by decide +kernel
theorem dX5_order_52 : decode cX5_order 52 = .ok (.ireturn, 1) := by decide +kernel
theorem dX5_dry_0 : decode cX5_dry 0 = .ok (.aload_n 0, 1) := by decide +kernel
theorem dX5_dry_1 : decode cX5_dry 1 = .ok (.iload_n 1, 1) := by decide +kernel
theorem dX5_dry_2 : decode cX5_dry 2 = .ok (.invokevirtual 93, 3) := by decide +kernel
theorem dX5_dry_5 : decode cX5_dry 5 = .ok (.iconst (-1), 1) := by decide +kernel
theorem dX5_dry_6 : decode cX5_dry 6 = .ok (.istore_n 2, 1) := by decide +kernel
theorem dX5_dry_7 : decode cX5_dry 7 = .ok (.iconst 0, 1) := by decide +kernel
theorem dX5_dry_8 : decode cX5_dry 8 = .ok (.istore_n 3, 1) := by decide +kernel
theorem dX5_dry_9 : decode cX5_dry 9 = .ok (.iload_n 3, 1) := by decide +kernel
theorem dX5_dry_10 : decode cX5_dry 10 = .ok (.getstatic 278, 3) := by decide +kernel
theorem dX5_dry_13 : decode cX5_dry 13 = .ok (.iconst 1, 1) := by decide +kernel
theorem dX5_dry_14 : decode cX5_dry 14 = .ok (.iaload, 1) := by decide +kernel
theorem dX5_dry_15 : decode cX5_dry 15 = .ok (.if_icmp .gt 87, 3) := by decide +kernel
theorem dX5_dry_18 : decode cX5_dry 18 = .ok (.aload_n 0, 1) := by decide +kernel
theorem dX5_dry_19 : decode cX5_dry 19 = .ok (.getfield 53, 3) := by decide +kernel
theorem dX5_dry_22 : decode cX5_dry 22 = .ok (.aload_n 0, 1) := by decide +kernel
theorem dX5_dry_23 : decode cX5_dry 23 = .ok (.getfield 39, 3) := by decide +kernel
theorem dX5_dry_26 : decode cX5_dry 26 = .ok (.invokevirtual 281, 3) := by decide +kernel
theorem dX5_dry_29 : decode cX5_dry 29 = .ok (.aload_n 0, 1) := by decide +kernel
theorem dX5_dry_30 : decode cX5_dry 30 = .ok (.getfield 53, 3) := by decide +kernel
theorem dX5_dry_33 : decode cX5_dry 33 = .ok (.getfield 285, 3) := by decide +kernel
theorem dX5_dry_36 : decode cX5_dry 36 = .ok (.iconst 1, 1) := by decide +kernel
theorem dX5_dry_37 : decode cX5_dry 37 = .ok (.iload_n 3, 1) := by decide +kernel
theorem dX5_dry_38 : decode cX5_dry 38 = .ok (.iastore, 1) := by decide +kernel
theorem dX5_dry_39 : decode cX5_dry 39 = .ok (.aload_n 0, 1) := by decide +kernel
theorem dX5_dry_40 : decode cX5_dry 40 = .ok (.getfield 53, 3) := by decide +kernel
theorem dX5_dry_43 : decode cX5_dry 43 = .ok (.aload_n 0, 1) := by decide +kernel
theorem dX5_dry_44 : decode cX5_dry 44 = .ok (.getfield 29, 3) := by decide +kernel
theorem dX5_dry_47 : decode cX5_dry 47 = .ok (.iload_n 1, 1) := by decide +kernel
theorem dX5_dry_48 : decode cX5_dry 48 = .ok (.aaload, 1) := by decide +kernel
theorem dX5_dry_49 : decode cX5_dry 49 = .ok (.invokevirtual 286, 3) := by decide +kernel
theorem dX5_dry_52 : decode cX5_dry 52 = .ok (.aload_n 0, 1) := by decide +kernel
theorem dX5_dry_53 : decode cX5_dry 53 = .ok (.getfield 53, 3) := by decide +kernel
theorem dX5_dry_56 : decode cX5_dry 56 = .ok (.invokevirtual 289, 3) := by decide +kernel
theorem dX5_dry_59 : decode cX5_dry 59 = .ok (.istore 4, 2) := by decide +kernel
theorem dX5_dry_61 : decode cX5_dry 61 = .ok (.iload 4, 2) := by decide +kernel
theorem dX5_dry_63 : decode cX5_dry 63 = .ok (.iload_n 2, 1) := by decide +kernel
theorem dX5_dry_64 : decode cX5_dry 64 = .ok (.if_icmp .eq 32, 3) := by decide +kernel
theorem dX5_dry_67 : decode cX5_dry 67 = .ok (.iload 4, 2) := by decide +kernel
theorem dX5_dry_69 : decode cX5_dry 69 = .ok (.istore_n 2, 1) := by decide +kernel
theorem dX5_dry_70 : decode cX5_dry 70 = .ok (.aload_n 0, 1) := by decide +kernel
theorem dX5_dry_71 : decode cX5_dry 71 = .ok (.getfield 53, 3) := by decide +kernel
theorem dX5_dry_74 : decode cX5_dry 74 = .ok (.invokevirtual 292, 3) := by decide +kernel
theorem dX5_dry_77 : decode cX5_dry 77 = .ok (.ifCond .ne 5, 3) := by decide +kernel
theorem dX5_dry_80 : decode cX5_dry 80 = .ok (.iload_n 3, 1) := by decide +kernel
theorem dX5_dry_81 : decode cX5_dry 81 = .ok (.ireturn, 1) := by decide +kernel
theorem dX5_dry_82 : decode cX5_dry 82 = .ok (.aload_n 0, 1) := by decide +kernel
theorem dX5_dry_83 : decode cX5_dry 83 = .ok (.getfield 53, 3) := by decide +kernel
theorem dX5_dry_86 : decode cX5_dry 86 = .ok (.getfield 296, 3) := by decide +kernel
theorem dX5_dry_89 : decode cX5_dry 89 = .ok (.iload 4, 2) := by decide +kernel
theorem dX5_dry_91 : decode cX5_dry 91 = .ok (.if_icmp .ge 5, 3) := by decide +kernel
theorem dX5_dry_94 : decode cX5_dry 94 = .ok (.iconst (-1), 1) := by decide +kernel
theorem dX5_dry_95 : decode cX5_dry 95 = .ok (.ireturn, 1) := by decide +kernel
theorem dX5_dry_96 : decode cX5_dry 96 = .ok (.iinc 3 1, 3) := by decide +kernel
theorem dX5_dry_99 : decode cX5_dry 99 = .ok (.goto (-90), 3) := by decide +kernel
theorem dX5_dry_102 : decode cX5_dry 102 = .ok (.iconst (-1), 1) := by decide +kernel
theorem dX5_dry_103 : decode cX5_dry 103 = .ok (.ireturn, 1) := by decide +kernel
theorem dX5_image_0 : decode cX5_image 0 = .ok (.aload_n 0, 1) := by decide +kernel
theorem dX5_image_1 : decode cX5_image 1 = .ok (.getfield 47, 3) := by decide +kernel
theorem dX5_image_4 : decode cX5_image 4 = .ok (.iconst 3, 1) := by decide +kernel
theorem dX5_image_5 : decode cX5_image 5 = .ok (.if_icmp .lt 5, 3) := by decide +kernel
theorem dX5_image_8 : decode cX5_image 8 = .ok (.iconst (-1), 1) := by decide +kernel
theorem dX5_image_9 : decode cX5_image 9 = .ok (.ireturn, 1) := by decide +kernel
theorem dX5_image_10 : decode cX5_image 10 = .ok (.aload_n 0, 1) := by decide +kernel
theorem dX5_image_11 : decode cX5_image 11 = .ok (.getfield 43, 3) := by decide +kernel
theorem dX5_image_14 : decode cX5_image 14 = .ok (.aload_n 0, 1) := by decide +kernel
theorem dX5_image_15 : decode cX5_image 15 = .ok (.getfield 47, 3) := by decide +kernel
theorem dX5_image_18 : decode cX5_image 18 = .ok (.aaload, 1) := by decide +kernel
theorem dX5_image_19 : decode cX5_image 19 = .ok (.aload_n 0, 1) := by decide +kernel
theorem dX5_image_20 : decode cX5_image 20 = .ok (.getfield 39, 3) := by decide +kernel
theorem dX5_image_23 : decode cX5_image 23 = .ok (.invokevirtual 297, 3) := by decide +kernel
theorem dX5_image_26 : decode cX5_image 26 = .ok (.aload_n 0, 1) := by decide +kernel
theorem dX5_image_27 : decode cX5_image 27 = .ok (.dup, 1) := by decide +kernel
theorem dX5_image_28 : decode cX5_image 28 = .ok (.getfield 47, 3) := by decide +kernel
theorem dX5_image_31 : decode cX5_image 31 = .ok (.iconst 1, 1) := by decide +kernel
theorem dX5_image_32 : decode cX5_image 32 = .ok (.iadd, 1) := by decide +kernel
theorem dX5_image_33 : decode cX5_image 33 = .ok (.putfield 47, 3) := by decide +kernel
theorem dX5_image_36 : decode cX5_image 36 = .ok (.aload_n 0, 1) := by decide +kernel
theorem dX5_image_37 : decode cX5_image 37 = .ok (.getfield 47, 3) := by decide +kernel
theorem dX5_image_40 : decode cX5_image 40 = .ok (.ireturn, 1) := by decide +kernel
theorem dX5_restore_0 : decode cX5_restore 0 = .ok (.aload_n 0, 1) := by decide +kernel
theorem dX5_restore_1 : decode cX5_restore 1 = .ok (.getfield 47, 3) := by decide +kernel
theorem dX5_restore_4 : decode cX5_restore 4 = .ok (.ifCond .gt 5, 3) := by decide +kernel
theorem dX5_restore_7 : decode cX5_restore 7 = .ok (.iconst (-1), 1) := by decide +kernel
theorem dX5_restore_8 : decode cX5_restore 8 = .ok (.ireturn, 1) := by decide +kernel
theorem dX5_restore_9 : decode cX5_restore 9 = .ok (.aload_n 0, 1) := by decide +kernel
theorem dX5_restore_10 : decode cX5_restore 10 = .ok (.dup, 1) := by decide +kernel
theorem dX5_restore_11 : decode cX5_restore 11 = .ok (.getfield 47, 3) := by decide +kernel
theorem dX5_restore_14 : decode cX5_restore 14 = .ok (.iconst 1, 1) := by decide +kernel
theorem dX5_restore_15 : decode cX5_restore 15 = .ok (.isub, 1) := by decide +kernel
theorem dX5_restore_16 : decode cX5_restore 16 = .ok (.putfield 47, 3) := by decide +kernel
theorem dX5_restore_19 : decode cX5_restore 19 = .ok (.aload_n 0, 1) := by decide +kernel
theorem dX5_restore_20 : decode cX5_restore 20 = .ok (.getfield 39, 3) := by decide +kernel
theorem dX5_restore_23 : decode cX5_restore 23 = .ok (.aload_n 0, 1) := by decide +kernel
theorem dX5_restore_24 : decode cX5_restore 24 = .ok (.getfield 43, 3) := by decide +kernel
theorem dX5_restore_27 : decode cX5_restore 27 = .ok (.aload_n 0, 1) := by decide +kernel
theorem dX5_restore_28 : decode cX5_restore 28 = .ok (.getfield 47, 3) := by decide +kernel
theorem dX5_restore_31 : decode cX5_restore 31 = .ok (.aaload, 1) := by decide +kernel
theorem dX5_restore_32 : decode cX5_restore 32 = .ok (.invokevirtual 297, 3) := by decide +kernel
theorem dX5_restore_35 : decode cX5_restore 35 = .ok (.aload_n 0, 1) := by decide +kernel
theorem dX5_restore_36 : decode cX5_restore 36 = .ok (.invokevirtual 111, 3) := by decide +kernel
theorem dX5_restore_39 : decode cX5_restore 39 = .ok (.aload_n 0, 1) := by decide +kernel
theorem dX5_restore_40 : decode cX5_restore 40 = .ok (.getfield 47, 3) := by decide +kernel
theorem dX5_restore_43 : decode cX5_restore 43 = .ok (.ireturn, 1) := by decide +kernel
theorem dX5_count_0 : decode cX5_count 0 = .ok (.iload_n 1, 1) := by decide +kernel
theorem dX5_count_1 : decode cX5_count 1 = .ok (.tableswitch 78 0 5 #[39, 44, 52, 60, 68, 73], 39) := by decide +kernel
theorem dX5_count_40 : decode cX5_count 40 = .ok (.aload_n 0, 1) := by decide +kernel
theorem dX5_count_41 : decode cX5_count 41 = .ok (.getfield 33, 3) := by decide +kernel
theorem dX5_count_44 : decode cX5_count 44 = .ok (.ireturn, 1) := by decide +kernel
theorem dX5_count_45 : decode cX5_count 45 = .ok (.aload_n 0, 1) := by decide +kernel
theorem dX5_count_46 : decode cX5_count 46 = .ok (.getfield 39, 3) := by decide +kernel
theorem dX5_count_49 : decode cX5_count 49 = .ok (.getfield 177, 3) := by decide +kernel
theorem dX5_count_52 : decode cX5_count 52 = .ok (.ireturn, 1) := by decide +kernel
theorem dX5_count_53 : decode cX5_count 53 = .ok (.aload_n 0, 1) := by decide +kernel
theorem dX5_count_54 : decode cX5_count 54 = .ok (.getfield 39, 3) := by decide +kernel
theorem dX5_count_57 : decode cX5_count 57 = .ok (.getfield 226, 3) := by decide +kernel
theorem dX5_count_60 : decode cX5_count 60 = .ok (.ireturn, 1) := by decide +kernel
theorem dX5_count_61 : decode cX5_count 61 = .ok (.aload_n 0, 1) := by decide +kernel
theorem dX5_count_62 : decode cX5_count 62 = .ok (.getfield 39, 3) := by decide +kernel
theorem dX5_count_65 : decode cX5_count 65 = .ok (.getfield 241, 3) := by decide +kernel
theorem dX5_count_68 : decode cX5_count 68 = .ok (.ireturn, 1) := by decide +kernel
theorem dX5_count_69 : decode cX5_count 69 = .ok (.aload_n 0, 1) := by decide +kernel
theorem dX5_count_70 : decode cX5_count 70 = .ok (.getfield 47, 3) := by decide +kernel
theorem dX5_count_73 : decode cX5_count 73 = .ok (.ireturn, 1) := by decide +kernel
theorem dX5_count_74 : decode cX5_count 74 = .ok (.aload_n 0, 1) := by decide +kernel
theorem dX5_count_75 : decode cX5_count 75 = .ok (.getfield 13, 3) := by decide +kernel
theorem dX5_count_78 : decode cX5_count 78 = .ok (.ireturn, 1) := by decide +kernel
theorem dX5_count_79 : decode cX5_count 79 = .ok (.iload_n 1, 1) := by decide +kernel
theorem dX5_count_80 : decode cX5_count 80 = .ok (.bipush 10, 2) := by decide +kernel
theorem dX5_count_82 : decode cX5_count 82 = .ok (.if_icmp .lt 24, 3) := by decide +kernel
theorem dX5_count_85 : decode cX5_count 85 = .ok (.iload_n 1, 1) := by decide +kernel
theorem dX5_count_86 : decode cX5_count 86 = .ok (.bipush 20, 2) := by decide +kernel
theorem dX5_count_88 : decode cX5_count 88 = .ok (.if_icmp .ge 18, 3) := by decide +kernel
theorem dX5_count_91 : decode cX5_count 91 = .ok (.aload_n 0, 1) := by decide +kernel
theorem dX5_count_92 : decode cX5_count 92 = .ok (.getfield 39, 3) := by decide +kernel
theorem dX5_count_95 : decode cX5_count 95 = .ok (.getfield 108, 3) := by decide +kernel
theorem dX5_count_98 : decode cX5_count 98 = .ok (.iload_n 1, 1) := by decide +kernel
theorem dX5_count_99 : decode cX5_count 99 = .ok (.bipush 10, 2) := by decide +kernel
theorem dX5_count_101 : decode cX5_count 101 = .ok (.isub, 1) := by decide +kernel
theorem dX5_count_102 : decode cX5_count 102 = .ok (.iaload, 1) := by decide +kernel
theorem dX5_count_103 : decode cX5_count 103 = .ok (.goto 4, 3) := by decide +kernel
theorem dX5_count_106 : decode cX5_count 106 = .ok (.iconst (-1), 1) := by decide +kernel
theorem dX5_count_107 : decode cX5_count 107 = .ok (.ireturn, 1) := by decide +kernel
theorem dX5_testWhy_0 : decode cX5_testWhy 0 = .ok (.iload_n 1, 1) := by decide +kernel
theorem dX5_testWhy_1 : decode cX5_testWhy 1 = .ok (.ifCond .lt 11, 3) := by decide +kernel
theorem dX5_testWhy_4 : decode cX5_testWhy 4 = .ok (.iload_n 1, 1) := by decide +kernel
theorem dX5_testWhy_5 : decode cX5_testWhy 5 = .ok (.aload_n 0, 1) := by decide +kernel
theorem dX5_testWhy_6 : decode cX5_testWhy 6 = .ok (.getfield 33, 3) := by decide +kernel
theorem dX5_testWhy_9 : decode cX5_testWhy 9 = .ok (.if_icmp .lt 14, 3) := by decide +kernel
theorem dX5_testWhy_12 : decode cX5_testWhy 12 = .ok (.new 299, 3) := by decide +kernel
theorem dX5_testWhy_15 : decode cX5_testWhy 15 = .ok (.dup, 1) := by decide +kernel
theorem dX5_testWhy_16 : decode cX5_testWhy 16 = .ok (.ldc_w 301, 3) := by decide +kernel
theorem dX5_testWhy_19 : decode cX5_testWhy 19 = .ok (.invokespecial 303, 3) := by decide +kernel
theorem dX5_testWhy_22 : decode cX5_testWhy 22 = .ok (.athrow, 1) := by decide +kernel
theorem dX5_testWhy_23 : decode cX5_testWhy 23 = .ok (.return_, 1) := by decide +kernel
theorem dX5_testRow_0 : decode cX5_testRow 0 = .ok (.iload_n 1, 1) := by decide +kernel
theorem dX5_testRow_1 : decode cX5_testRow 1 = .ok (.ifCond .lt 14, 3) := by decide +kernel
theorem dX5_testRow_4 : decode cX5_testRow 4 = .ok (.iload_n 1, 1) := by decide +kernel
theorem dX5_testRow_5 : decode cX5_testRow 5 = .ok (.aload_n 0, 1) := by decide +kernel
theorem dX5_testRow_6 : decode cX5_testRow 6 = .ok (.getfield 39, 3) := by decide +kernel
theorem dX5_testRow_9 : decode cX5_testRow 9 = .ok (.getfield 177, 3) := by decide +kernel
theorem dX5_testRow_12 : decode cX5_testRow 12 = .ok (.if_icmp .lt 14, 3) := by decide +kernel
theorem dX5_testRow_15 : decode cX5_testRow 15 = .ok (.new 304, 3) := by decide +kernel
theorem dX5_testRow_18 : decode cX5_testRow 18 = .ok (.dup, 1) := by decide +kernel
theorem dX5_testRow_19 : decode cX5_testRow 19 = .ok (.ldc_w 306, 3) := by decide +kernel
theorem dX5_testRow_22 : decode cX5_testRow 22 = .ok (.invokespecial 308, 3) := by decide +kernel
theorem dX5_testRow_25 : decode cX5_testRow 25 = .ok (.athrow, 1) := by decide +kernel
theorem dX5_testRow_26 : decode cX5_testRow 26 = .ok (.return_, 1) := by decide +kernel
theorem dX5_testCell_0 : decode cX5_testCell 0 = .ok (.iload_n 0, 1) := by decide +kernel
theorem dX5_testCell_1 : decode cX5_testCell 1 = .ok (.ifCond .lt 9, 3) := by decide +kernel
theorem dX5_testCell_4 : decode cX5_testCell 4 = .ok (.iload_n 0, 1) := by decide +kernel
theorem dX5_testCell_5 : decode cX5_testCell 5 = .ok (.bipush 8, 2) := by decide +kernel
theorem dX5_testCell_7 : decode cX5_testCell 7 = .ok (.if_icmp .lt 14, 3) := by decide +kernel
theorem dX5_testCell_10 : decode cX5_testCell 10 = .ok (.new 304, 3) := by decide +kernel
theorem dX5_testCell_13 : decode cX5_testCell 13 = .ok (.dup, 1) := by decide +kernel
theorem dX5_testCell_14 : decode cX5_testCell 14 = .ok (.ldc_w 309, 3) := by decide +kernel
theorem dX5_testCell_17 : decode cX5_testCell 17 = .ok (.invokespecial 308, 3) := by decide +kernel
theorem dX5_testCell_20 : decode cX5_testCell 20 = .ok (.athrow, 1) := by decide +kernel
theorem dX5_testCell_21 : decode cX5_testCell 21 = .ok (.return_, 1) := by decide +kernel
theorem dX5_testWithin_0 : decode cX5_testWithin 0 = .ok (.iload_n 0, 1) := by decide +kernel
theorem dX5_testWithin_1 : decode cX5_testWithin 1 = .ok (.iload_n 1, 1) := by decide +kernel
theorem dX5_testWithin_2 : decode cX5_testWithin 2 = .ok (.if_icmp .lt 8, 3) := by decide +kernel
theorem dX5_testWithin_5 : decode cX5_testWithin 5 = .ok (.iload_n 0, 1) := by decide +kernel
theorem dX5_testWithin_6 : decode cX5_testWithin 6 = .ok (.iload_n 2, 1) := by decide +kernel
theorem dX5_testWithin_7 : decode cX5_testWithin 7 = .ok (.if_icmp .le 14, 3) := by decide +kernel
theorem dX5_testWithin_10 : decode cX5_testWithin 10 = .ok (.new 73, 3) := by decide +kernel
theorem dX5_testWithin_13 : decode cX5_testWithin 13 = .ok (.dup, 1) := by decide +kernel
theorem dX5_testWithin_14 : decode cX5_testWithin 14 = .ok (.ldc_w 311, 3) := by decide +kernel
theorem dX5_testWithin_17 : decode cX5_testWithin 17 = .ok (.invokespecial 77, 3) := by decide +kernel
theorem dX5_testWithin_20 : decode cX5_testWithin 20 = .ok (.athrow, 1) := by decide +kernel
theorem dX5_testWithin_21 : decode cX5_testWithin 21 = .ok (.return_, 1) := by decide +kernel
theorem dX5_testNumber_0 : decode cX5_testNumber 0 = .ok (.iload_n 0, 1) := by decide +kernel
theorem dX5_testNumber_1 : decode cX5_testNumber 1 = .ok (.ifCond .lt 27, 3) := by decide +kernel
theorem dX5_testNumber_4 : decode cX5_testNumber 4 = .ok (.iload_n 0, 1) := by decide +kernel
theorem dX5_testNumber_5 : decode cX5_testNumber 5 = .ok (.bipush 10, 2) := by decide +kernel
theorem dX5_testNumber_7 : decode cX5_testNumber 7 = .ok (.if_icmp .ge 21, 3) := by decide +kernel
theorem dX5_testNumber_10 : decode cX5_testNumber 10 = .ok (.iload_n 1, 1) := by decide +kernel
theorem dX5_testNumber_11 : decode cX5_testNumber 11 = .ok (.getstatic 313, 3) := by decide +kernel
theorem dX5_testNumber_14 : decode cX5_testNumber 14 = .ok (.iload_n 0, 1) := by decide +kernel
theorem dX5_testNumber_15 : decode cX5_testNumber 15 = .ok (.iaload, 1) := by decide +kernel
theorem dX5_testNumber_16 : decode cX5_testNumber 16 = .ok (.if_icmp .lt 12, 3) := by decide +kernel
theorem dX5_testNumber_19 : decode cX5_testNumber 19 = .ok (.iload_n 1, 1) := by decide +kernel
theorem dX5_testNumber_20 : decode cX5_testNumber 20 = .ok (.getstatic 278, 3) := by decide +kernel
theorem dX5_testNumber_23 : decode cX5_testNumber 23 = .ok (.iload_n 0, 1) := by decide +kernel
theorem dX5_testNumber_24 : decode cX5_testNumber 24 = .ok (.iaload, 1) := by decide +kernel
theorem dX5_testNumber_25 : decode cX5_testNumber 25 = .ok (.if_icmp .le 14, 3) := by decide +kernel
theorem dX5_testNumber_28 : decode cX5_testNumber 28 = .ok (.new 73, 3) := by decide +kernel
theorem dX5_testNumber_31 : decode cX5_testNumber 31 = .ok (.dup, 1) := by decide +kernel
theorem dX5_testNumber_32 : decode cX5_testNumber 32 = .ok (.ldc_w 316, 3) := by decide +kernel
theorem dX5_testNumber_35 : decode cX5_testNumber 35 = .ok (.invokespecial 77, 3) := by decide +kernel
theorem dX5_testNumber_38 : decode cX5_testNumber 38 = .ok (.athrow, 1) := by decide +kernel
theorem dX5_testNumber_39 : decode cX5_testNumber 39 = .ok (.return_, 1) := by decide +kernel
theorem dX5_testRowValue_0 : decode cX5_testRowValue 0 = .ok (.iload_n 0, 1) := by decide +kernel
theorem dX5_testRowValue_1 : decode cX5_testRowValue 1 = .ok (.tableswitch 64 0 4 #[35, 44, 54, 64, 54], 35) := by decide +kernel
theorem dX5_testRowValue_36 : decode cX5_testRowValue 36 = .ok (.iload_n 1, 1) := by decide +kernel
theorem dX5_testRowValue_37 : decode cX5_testRowValue 37 = .ok (.iconst 0, 1) := by decide +kernel
theorem dX5_testRowValue_38 : decode cX5_testRowValue 38 = .ok (.iconst 1, 1) := by decide +kernel
theorem dX5_testRowValue_39 : decode cX5_testRowValue 39 = .ok (.invokestatic 97, 3) := by decide +kernel
theorem dX5_testRowValue_42 : decode cX5_testRowValue 42 = .ok (.goto 33, 3) := by decide +kernel
theorem dX5_testRowValue_45 : decode cX5_testRowValue 45 = .ok (.iload_n 1, 1) := by decide +kernel
theorem dX5_testRowValue_46 : decode cX5_testRowValue 46 = .ok (.iconst 0, 1) := by decide +kernel
theorem dX5_testRowValue_47 : decode cX5_testRowValue 47 = .ok (.bipush 7, 2) := by decide +kernel
theorem dX5_testRowValue_49 : decode cX5_testRowValue 49 = .ok (.invokestatic 97, 3) := by decide +kernel
theorem dX5_testRowValue_52 : decode cX5_testRowValue 52 = .ok (.goto 23, 3) := by decide +kernel
theorem dX5_testRowValue_55 : decode cX5_testRowValue 55 = .ok (.iload_n 1, 1) := by decide +kernel
theorem dX5_testRowValue_56 : decode cX5_testRowValue 56 = .ok (.iconst 0, 1) := by decide +kernel
theorem dX5_testRowValue_57 : decode cX5_testRowValue 57 = .ok (.bipush 99, 2) := by decide +kernel
theorem dX5_testRowValue_59 : decode cX5_testRowValue 59 = .ok (.invokestatic 97, 3) := by decide +kernel
theorem dX5_testRowValue_62 : decode cX5_testRowValue 62 = .ok (.goto 13, 3) := by decide +kernel
theorem dX5_testRowValue_65 : decode cX5_testRowValue 65 = .ok (.iload_n 1, 1) := by decide +kernel
theorem dX5_testRowValue_66 : decode cX5_testRowValue 66 = .ok (.sipush (-9999), 3) := by decide +kernel
theorem dX5_testRowValue_69 : decode cX5_testRowValue 69 = .ok (.sipush 9999, 3) := by decide +kernel
theorem dX5_testRowValue_72 : decode cX5_testRowValue 72 = .ok (.invokestatic 97, 3) := by decide +kernel
theorem dX5_testRowValue_75 : decode cX5_testRowValue 75 = .ok (.return_, 1) := by decide +kernel
theorem dX5_testBits_0 : decode cX5_testBits 0 = .ok (.iload_n 0, 1) := by decide +kernel
theorem dX5_testBits_1 : decode cX5_testBits 1 = .ok (.iconst 1, 1) := by decide +kernel
theorem dX5_testBits_2 : decode cX5_testBits 2 = .ok (.iload_n 1, 1) := by decide +kernel
theorem dX5_testBits_3 : decode cX5_testBits 3 = .ok (.ishl, 1) := by decide +kernel
theorem dX5_testBits_4 : decode cX5_testBits 4 = .ok (.iconst 1, 1) := by decide +kernel
theorem dX5_testBits_5 : decode cX5_testBits 5 = .ok (.isub, 1) := by decide +kernel
theorem dX5_testBits_6 : decode cX5_testBits 6 = .ok (.iconst (-1), 1) := by decide +kernel
theorem dX5_testBits_7 : decode cX5_testBits 7 = .ok (.ixor, 1) := by decide +kernel
theorem dX5_testBits_8 : decode cX5_testBits 8 = .ok (.iand, 1) := by decide +kernel
theorem dX5_testBits_9 : decode cX5_testBits 9 = .ok (.ifCond .eq 14, 3) := by decide +kernel
theorem dX5_testBits_12 : decode cX5_testBits 12 = .ok (.new 73, 3) := by decide +kernel
theorem dX5_testBits_15 : decode cX5_testBits 15 = .ok (.dup, 1) := by decide +kernel
theorem dX5_testBits_16 : decode cX5_testBits 16 = .ok (.ldc_w 318, 3) := by decide +kernel
theorem dX5_testBits_19 : decode cX5_testBits 19 = .ok (.invokespecial 77, 3) := by decide +kernel
theorem dX5_testBits_22 : decode cX5_testBits 22 = .ok (.athrow, 1) := by decide +kernel
theorem dX5_testBits_23 : decode cX5_testBits 23 = .ok (.return_, 1) := by decide +kernel
theorem dX5_forgetRuns_0 : decode cX5_forgetRuns 0 = .ok (.iconst 0, 1) := by decide +kernel
theorem dX5_forgetRuns_1 : decode cX5_forgetRuns 1 = .ok (.istore_n 1, 1) := by decide +kernel
theorem dX5_forgetRuns_2 : decode cX5_forgetRuns 2 = .ok (.iload_n 1, 1) := by decide +kernel
theorem dX5_forgetRuns_3 : decode cX5_forgetRuns 3 = .ok (.bipush 6, 2) := by decide +kernel
theorem dX5_forgetRuns_5 : decode cX5_forgetRuns 5 = .ok (.if_icmp .ge 19, 3) := by decide +kernel
theorem dX5_forgetRuns_8 : decode cX5_forgetRuns 8 = .ok (.aload_n 0, 1) := by decide +kernel
theorem dX5_forgetRuns_9 : decode cX5_forgetRuns 9 = .ok (.getfield 59, 3) := by decide +kernel
theorem dX5_forgetRuns_12 : decode cX5_forgetRuns 12 = .ok (.iload_n 1, 1) := by decide +kernel
theorem dX5_forgetRuns_13 : decode cX5_forgetRuns 13 = .ok (.aaload, 1) := by decide +kernel
theorem dX5_forgetRuns_14 : decode cX5_forgetRuns 14 = .ok (.iconst 0, 1) := by decide +kernel
theorem dX5_forgetRuns_15 : decode cX5_forgetRuns 15 = .ok (.putfield 320, 3) := by decide +kernel
theorem dX5_forgetRuns_18 : decode cX5_forgetRuns 18 = .ok (.iinc 1 1, 3) := by decide +kernel
theorem dX5_forgetRuns_21 : decode cX5_forgetRuns 21 = .ok (.goto (-19), 3) := by decide +kernel
theorem dX5_forgetRuns_24 : decode cX5_forgetRuns 24 = .ok (.aload_n 0, 1) := by decide +kernel
theorem dX5_forgetRuns_25 : decode cX5_forgetRuns 25 = .ok (.invokevirtual 235, 3) := by decide +kernel
theorem dX5_forgetRuns_28 : decode cX5_forgetRuns 28 = .ok (.return_, 1) := by decide +kernel
theorem dX5_forgetBurnt_0 : decode cX5_forgetBurnt 0 = .ok (.aload_n 0, 1) := by decide +kernel
theorem dX5_forgetBurnt_1 : decode cX5_forgetBurnt 1 = .ok (.getfield 63, 3) := by decide +kernel
theorem dX5_forgetBurnt_4 : decode cX5_forgetBurnt 4 = .ok (.iconst (-1), 1) := by decide +kernel
theorem dX5_forgetBurnt_5 : decode cX5_forgetBurnt 5 = .ok (.invokestatic 324, 3) := by decide +kernel
theorem dX5_forgetBurnt_8 : decode cX5_forgetBurnt 8 = .ok (.return_, 1) := by decide +kernel
theorem dX5_filmBy_0 : decode cX5_filmBy 0 = .ok (.aload_n 0, 1) := by decide +kernel
theorem dX5_filmBy_1 : decode cX5_filmBy 1 = .ok (.getfield 59, 3) := by decide +kernel
theorem dX5_filmBy_4 : decode cX5_filmBy 4 = .ok (.iload_n 1, 1) := by decide +kernel
theorem dX5_filmBy_5 : decode cX5_filmBy 5 = .ok (.aaload, 1) := by decide +kernel
theorem dX5_filmBy_6 : decode cX5_filmBy 6 = .ok (.astore_n 2, 1) := by decide +kernel
theorem dX5_filmBy_7 : decode cX5_filmBy 7 = .ok (.aload_n 2, 1) := by decide +kernel
theorem dX5_filmBy_8 : decode cX5_filmBy 8 = .ok (.getfield 320, 3) := by decide +kernel
theorem dX5_filmBy_11 : decode cX5_filmBy 11 = .ok (.ifCond .ne 66, 3) := by decide +kernel
theorem dX5_filmBy_14 : decode cX5_filmBy 14 = .ok (.aload_n 0, 1) := by decide +kernel
theorem dX5_filmBy_15 : decode cX5_filmBy 15 = .ok (.getfield 53, 3) := by decide +kernel
theorem dX5_filmBy_18 : decode cX5_filmBy 18 = .ok (.aload_n 0, 1) := by decide +kernel
theorem dX5_filmBy_19 : decode cX5_filmBy 19 = .ok (.getfield 39, 3) := by decide +kernel
theorem dX5_filmBy_22 : decode cX5_filmBy 22 = .ok (.invokevirtual 281, 3) := by decide +kernel
theorem dX5_filmBy_25 : decode cX5_filmBy 25 = .ok (.aload_n 0, 1) := by decide +kernel
theorem dX5_filmBy_26 : decode cX5_filmBy 26 = .ok (.getfield 53, 3) := by decide +kernel
theorem dX5_filmBy_29 : decode cX5_filmBy 29 = .ok (.aload_n 0, 1) := by decide +kernel
theorem dX5_filmBy_30 : decode cX5_filmBy 30 = .ok (.getfield 29, 3) := by decide +kernel
theorem dX5_filmBy_33 : decode cX5_filmBy 33 = .ok (.iload_n 1, 1) := by decide +kernel
theorem dX5_filmBy_34 : decode cX5_filmBy 34 = .ok (.aaload, 1) := by decide +kernel
theorem dX5_filmBy_35 : decode cX5_filmBy 35 = .ok (.invokevirtual 286, 3) := by decide +kernel
theorem dX5_filmBy_38 : decode cX5_filmBy 38 = .ok (.iconst 0, 1) := by decide +kernel
theorem dX5_filmBy_39 : decode cX5_filmBy 39 = .ok (.istore_n 3, 1) := by decide +kernel
theorem dX5_filmBy_40 : decode cX5_filmBy 40 = .ok (.iload_n 3, 1) := by decide +kernel
theorem dX5_filmBy_41 : decode cX5_filmBy 41 = .ok (.bipush 100, 2) := by decide +kernel
theorem dX5_filmBy_43 : decode cX5_filmBy 43 = .ok (.if_icmp .ge 26, 3) := by decide +kernel
theorem dX5_filmBy_46 : decode cX5_filmBy 46 = .ok (.aload_n 0, 1) := by decide +kernel
theorem dX5_filmBy_47 : decode cX5_filmBy 47 = .ok (.getfield 53, 3) := by decide +kernel
theorem dX5_filmBy_50 : decode cX5_filmBy 50 = .ok (.iload_n 3, 1) := by decide +kernel
theorem dX5_filmBy_51 : decode cX5_filmBy 51 = .ok (.invokevirtual 330, 3) := by decide +kernel
theorem dX5_filmBy_54 : decode cX5_filmBy 54 = .ok (.aload_n 2, 1) := by decide +kernel
theorem dX5_filmBy_55 : decode cX5_filmBy 55 = .ok (.aload_n 0, 1) := by decide +kernel
theorem dX5_filmBy_56 : decode cX5_filmBy 56 = .ok (.getfield 53, 3) := by decide +kernel
theorem dX5_filmBy_59 : decode cX5_filmBy 59 = .ok (.iload_n 3, 1) := by decide +kernel
theorem dX5_filmBy_60 : decode cX5_filmBy 60 = .ok (.invokevirtual 333, 3) := by decide +kernel
theorem dX5_filmBy_63 : decode cX5_filmBy 63 = .ok (.iinc 3 1, 3) := by decide +kernel
theorem dX5_filmBy_66 : decode cX5_filmBy 66 = .ok (.goto (-26), 3) := by decide +kernel
theorem dX5_filmBy_69 : decode cX5_filmBy 69 = .ok (.aload_n 2, 1) := by decide +kernel
theorem dX5_filmBy_70 : decode cX5_filmBy 70 = .ok (.aload_n 0, 1) := by decide +kernel
theorem dX5_filmBy_71 : decode cX5_filmBy 71 = .ok (.getfield 53, 3) := by decide +kernel
theorem dX5_filmBy_74 : decode cX5_filmBy 74 = .ok (.invokevirtual 337, 3) := by decide +kernel
theorem dX5_filmBy_77 : decode cX5_filmBy 77 = .ok (.aload_n 2, 1) := by decide +kernel
theorem dX5_filmBy_78 : decode cX5_filmBy 78 = .ok (.areturn, 1) := by decide +kernel
theorem dX5_burntBy_0 : decode cX5_burntBy 0 = .ok (.aload_n 0, 1) := by decide +kernel
theorem dX5_burntBy_1 : decode cX5_burntBy 1 = .ok (.getfield 63, 3) := by decide +kernel
theorem dX5_burntBy_4 : decode cX5_burntBy 4 = .ok (.iload_n 1, 1) := by decide +kernel
theorem dX5_burntBy_5 : decode cX5_burntBy 5 = .ok (.iaload, 1) := by decide +kernel
theorem dX5_burntBy_6 : decode cX5_burntBy 6 = .ok (.iconst (-1), 1) := by decide +kernel
theorem dX5_burntBy_7 : decode cX5_burntBy 7 = .ok (.if_icmp .ne 104, 3) := by decide +kernel
theorem dX5_burntBy_10 : decode cX5_burntBy 10 = .ok (.iconst 0, 1) := by decide +kernel
theorem dX5_burntBy_11 : decode cX5_burntBy 11 = .ok (.istore_n 2, 1) := by decide +kernel
theorem dX5_burntBy_12 : decode cX5_burntBy 12 = .ok (.iconst 0, 1) := by decide +kernel
theorem dX5_burntBy_13 : decode cX5_burntBy 13 = .ok (.istore_n 3, 1) := by decide +kernel
theorem dX5_burntBy_14 : decode cX5_burntBy 14 = .ok (.iload_n 3, 1) := by decide +kernel
theorem dX5_burntBy_15 : decode cX5_burntBy 15 = .ok (.aload_n 0, 1) := by decide +kernel
theorem dX5_burntBy_16 : decode cX5_burntBy 16 = .ok (.getfield 39, 3) := by decide +kernel
theorem dX5_burntBy_19 : decode cX5_burntBy 19 = .ok (.getfield 226, 3) := by decide +kernel
theorem dX5_burntBy_22 : decode cX5_burntBy 22 = .ok (.if_icmp .ge 82, 3) := by decide +kernel
theorem dX5_burntBy_25 : decode cX5_burntBy 25 = .ok (.aload_n 0, 1) := by decide +kernel
theorem dX5_burntBy_26 : decode cX5_burntBy 26 = .ok (.getfield 53, 3) := by decide +kernel
theorem dX5_burntBy_29 : decode cX5_burntBy 29 = .ok (.aload_n 0, 1) := by decide +kernel
theorem dX5_burntBy_30 : decode cX5_burntBy 30 = .ok (.getfield 39, 3) := by decide +kernel
theorem dX5_burntBy_33 : decode cX5_burntBy 33 = .ok (.invokevirtual 281, 3) := by decide +kernel
theorem dX5_burntBy_36 : decode cX5_burntBy 36 = .ok (.aload_n 0, 1) := by decide +kernel
theorem dX5_burntBy_37 : decode cX5_burntBy 37 = .ok (.getfield 53, 3) := by decide +kernel
theorem dX5_burntBy_40 : decode cX5_burntBy 40 = .ok (.getfield 285, 3) := by decide +kernel
theorem dX5_burntBy_43 : decode cX5_burntBy 43 = .ok (.iconst 0, 1) := by decide +kernel
theorem dX5_burntBy_44 : decode cX5_burntBy 44 = .ok (.aload_n 0, 1) := by decide +kernel
theorem dX5_burntBy_45 : decode cX5_burntBy 45 = .ok (.getfield 39, 3) := by decide +kernel
theorem dX5_burntBy_48 : decode cX5_burntBy 48 = .ok (.getfield 229, 3) := by decide +kernel
theorem dX5_burntBy_51 : decode cX5_burntBy 51 = .ok (.iload_n 3, 1) := by decide +kernel
theorem dX5_burntBy_52 : decode cX5_burntBy 52 = .ok (.iaload, 1) := by decide +kernel
theorem dX5_burntBy_53 : decode cX5_burntBy 53 = .ok (.iastore, 1) := by decide +kernel
theorem dX5_burntBy_54 : decode cX5_burntBy 54 = .ok (.aload_n 0, 1) := by decide +kernel
theorem dX5_burntBy_55 : decode cX5_burntBy 55 = .ok (.getfield 53, 3) := by decide +kernel
theorem dX5_burntBy_58 : decode cX5_burntBy 58 = .ok (.getfield 285, 3) := by decide +kernel
theorem dX5_burntBy_61 : decode cX5_burntBy 61 = .ok (.iconst 2, 1) := by decide +kernel
theorem dX5_burntBy_62 : decode cX5_burntBy 62 = .ok (.aload_n 0, 1) := by decide +kernel
theorem dX5_burntBy_63 : decode cX5_burntBy 63 = .ok (.getfield 39, 3) := by decide +kernel
theorem dX5_burntBy_66 : decode cX5_burntBy 66 = .ok (.getfield 232, 3) := by decide +kernel
theorem dX5_burntBy_69 : decode cX5_burntBy 69 = .ok (.iload_n 3, 1) := by decide +kernel
theorem dX5_burntBy_70 : decode cX5_burntBy 70 = .ok (.iaload, 1) := by decide +kernel
theorem dX5_burntBy_71 : decode cX5_burntBy 71 = .ok (.iastore, 1) := by decide +kernel
theorem dX5_burntBy_72 : decode cX5_burntBy 72 = .ok (.aload_n 0, 1) := by decide +kernel
theorem dX5_burntBy_73 : decode cX5_burntBy 73 = .ok (.getfield 53, 3) := by decide +kernel
theorem dX5_burntBy_76 : decode cX5_burntBy 76 = .ok (.aload_n 0, 1) := by decide +kernel
theorem dX5_burntBy_77 : decode cX5_burntBy 77 = .ok (.getfield 29, 3) := by decide +kernel
theorem dX5_burntBy_80 : decode cX5_burntBy 80 = .ok (.iload_n 1, 1) := by decide +kernel
theorem dX5_burntBy_81 : decode cX5_burntBy 81 = .ok (.aaload, 1) := by decide +kernel
theorem dX5_burntBy_82 : decode cX5_burntBy 82 = .ok (.invokevirtual 286, 3) := by decide +kernel
theorem dX5_burntBy_85 : decode cX5_burntBy 85 = .ok (.aload_n 0, 1) := by decide +kernel
theorem dX5_burntBy_86 : decode cX5_burntBy 86 = .ok (.getfield 53, 3) := by decide +kernel
theorem dX5_burntBy_89 : decode cX5_burntBy 89 = .ok (.invokevirtual 292, 3) := by decide +kernel
theorem dX5_burntBy_92 : decode cX5_burntBy 92 = .ok (.ifCond .eq 6, 3) := by decide +kernel
theorem dX5_burntBy_95 : decode cX5_burntBy 95 = .ok (.iinc 2 1, 3) := by decide +kernel
theorem dX5_burntBy_98 : decode cX5_burntBy 98 = .ok (.iinc 3 1, 3) := by decide +kernel
theorem dX5_burntBy_101 : decode cX5_burntBy 101 = .ok (.goto (-87), 3) := by decide +kernel
theorem dX5_burntBy_104 : decode cX5_burntBy 104 = .ok (.aload_n 0, 1) := by decide +kernel
theorem dX5_burntBy_105 : decode cX5_burntBy 105 = .ok (.getfield 63, 3) := by decide +kernel
theorem dX5_burntBy_108 : decode cX5_burntBy 108 = .ok (.iload_n 1, 1) := by decide +kernel
theorem dX5_burntBy_109 : decode cX5_burntBy 109 = .ok (.iload_n 2, 1) := by decide +kernel
theorem dX5_burntBy_110 : decode cX5_burntBy 110 = .ok (.iastore, 1) := by decide +kernel
theorem dX5_burntBy_111 : decode cX5_burntBy 111 = .ok (.aload_n 0, 1) := by decide +kernel
theorem dX5_burntBy_112 : decode cX5_burntBy 112 = .ok (.getfield 63, 3) := by decide +kernel
theorem dX5_burntBy_115 : decode cX5_burntBy 115 = .ok (.iload_n 1, 1) := by decide +kernel
theorem dX5_burntBy_116 : decode cX5_burntBy 116 = .ok (.iaload, 1) := by decide +kernel
theorem dX5_burntBy_117 : decode cX5_burntBy 117 = .ok (.ireturn, 1) := by decide +kernel
theorem dX5_isSo_0 : decode cX5_isSo 0 = .ok (.aload_n 0, 1) := by decide +kernel
theorem dX5_isSo_1 : decode cX5_isSo 1 = .ok (.getfield 39, 3) := by decide +kernel
theorem dX5_isSo_4 : decode cX5_isSo 4 = .ok (.getfield 183, 3) := by decide +kernel
theorem dX5_isSo_7 : decode cX5_isSo 7 = .ok (.iload_n 2, 1) := by decide +kernel
theorem dX5_isSo_8 : decode cX5_isSo 8 = .ok (.iaload, 1) := by decide +kernel
theorem dX5_isSo_9 : decode cX5_isSo 9 = .ok (.istore_n 3, 1) := by decide +kernel
theorem dX5_isSo_10 : decode cX5_isSo 10 = .ok (.aload_n 0, 1) := by decide +kernel
theorem dX5_isSo_11 : decode cX5_isSo 11 = .ok (.getfield 39, 3) := by decide +kernel
theorem dX5_isSo_14 : decode cX5_isSo 14 = .ok (.getfield 189, 3) := by decide +kernel
theorem dX5_isSo_17 : decode cX5_isSo 17 = .ok (.iload_n 2, 1) := by decide +kernel
theorem dX5_isSo_18 : decode cX5_isSo 18 = .ok (.iaload, 1) := by decide +kernel
theorem dX5_isSo_19 : decode cX5_isSo 19 = .ok (.istore 4, 2) := by decide +kernel
theorem dX5_isSo_21 : decode cX5_isSo 21 = .ok (.aload_n 0, 1) := by decide +kernel
theorem dX5_isSo_22 : decode cX5_isSo 22 = .ok (.getfield 39, 3) := by decide +kernel
theorem dX5_isSo_25 : decode cX5_isSo 25 = .ok (.getfield 180, 3) := by decide +kernel
theorem dX5_isSo_28 : decode cX5_isSo 28 = .ok (.iload_n 2, 1) := by decide +kernel
theorem dX5_isSo_29 : decode cX5_isSo 29 = .ok (.iaload, 1) := by decide +kernel
theorem dX5_isSo_30 : decode cX5_isSo 30 = .ok (.tableswitch 119 0 4 #[34, 68, 83, 93, 109], 34) := by decide +kernel
theorem dX5_isSo_64 : decode cX5_isSo 64 = .ok (.aload_n 1, 1) := by decide +kernel
theorem dX5_isSo_65 : decode cX5_isSo 65 = .ok (.aload_n 0, 1) := by decide +kernel
theorem dX5_isSo_66 : decode cX5_isSo 66 = .ok (.getfield 39, 3) := by decide +kernel
theorem dX5_isSo_69 : decode cX5_isSo 69 = .ok (.getfield 186, 3) := by decide +kernel
theorem dX5_isSo_72 : decode cX5_isSo 72 = .ok (.iload_n 2, 1) := by decide +kernel
theorem dX5_isSo_73 : decode cX5_isSo 73 = .ok (.iaload, 1) := by decide +kernel
theorem dX5_isSo_74 : decode cX5_isSo 74 = .ok (.iload_n 3, 1) := by decide +kernel
theorem dX5_isSo_75 : decode cX5_isSo 75 = .ok (.invokevirtual 151, 3) := by decide +kernel
theorem dX5_isSo_78 : decode cX5_isSo 78 = .ok (.iload 4, 2) := by decide +kernel
theorem dX5_isSo_80 : decode cX5_isSo 80 = .ok (.iconst 1, 1) := by decide +kernel
theorem dX5_isSo_81 : decode cX5_isSo 81 = .ok (.if_icmp .ne 7, 3) := by decide +kernel
theorem dX5_isSo_84 : decode cX5_isSo 84 = .ok (.iconst 1, 1) := by decide +kernel
theorem dX5_isSo_85 : decode cX5_isSo 85 = .ok (.goto 4, 3) := by decide +kernel
theorem dX5_isSo_88 : decode cX5_isSo 88 = .ok (.iconst 0, 1) := by decide +kernel
theorem dX5_isSo_89 : decode cX5_isSo 89 = .ok (.if_icmp .ne 7, 3) := by decide +kernel
theorem dX5_isSo_92 : decode cX5_isSo 92 = .ok (.iconst 1, 1) := by decide +kernel
theorem dX5_isSo_93 : decode cX5_isSo 93 = .ok (.goto 4, 3) := by decide +kernel
theorem dX5_isSo_96 : decode cX5_isSo 96 = .ok (.iconst 0, 1) := by decide +kernel
theorem dX5_isSo_97 : decode cX5_isSo 97 = .ok (.ireturn, 1) := by decide +kernel
theorem dX5_isSo_98 : decode cX5_isSo 98 = .ok (.aload_n 1, 1) := by decide +kernel
theorem dX5_isSo_99 : decode cX5_isSo 99 = .ok (.getfield 165, 3) := by decide +kernel
theorem dX5_isSo_102 : decode cX5_isSo 102 = .ok (.iload 4, 2) := by decide +kernel
theorem dX5_isSo_104 : decode cX5_isSo 104 = .ok (.if_icmp .ne 7, 3) := by decide +kernel
theorem dX5_isSo_107 : decode cX5_isSo 107 = .ok (.iconst 1, 1) := by decide +kernel
theorem dX5_isSo_108 : decode cX5_isSo 108 = .ok (.goto 4, 3) := by decide +kernel
theorem dX5_isSo_111 : decode cX5_isSo 111 = .ok (.iconst 0, 1) := by decide +kernel
theorem dX5_isSo_112 : decode cX5_isSo 112 = .ok (.ireturn, 1) := by decide +kernel
theorem dX5_isSo_113 : decode cX5_isSo 113 = .ok (.aload_n 1, 1) := by decide +kernel
theorem dX5_isSo_114 : decode cX5_isSo 114 = .ok (.getfield 168, 3) := by decide +kernel
theorem dX5_isSo_117 : decode cX5_isSo 117 = .ok (.iload 4, 2) := by decide +kernel
theorem dX5_isSo_119 : decode cX5_isSo 119 = .ok (.invokestatic 341, 3) := by decide +kernel
theorem dX5_isSo_122 : decode cX5_isSo 122 = .ok (.ireturn, 1) := by decide +kernel
theorem dX5_isSo_123 : decode cX5_isSo 123 = .ok (.aload_n 1, 1) := by decide +kernel
theorem dX5_isSo_124 : decode cX5_isSo 124 = .ok (.iload_n 3, 1) := by decide +kernel
theorem dX5_isSo_125 : decode cX5_isSo 125 = .ok (.invokevirtual 143, 3) := by decide +kernel
theorem dX5_isSo_128 : decode cX5_isSo 128 = .ok (.iload 4, 2) := by decide +kernel
theorem dX5_isSo_130 : decode cX5_isSo 130 = .ok (.if_icmp .lt 7, 3) := by decide +kernel
theorem dX5_isSo_133 : decode cX5_isSo 133 = .ok (.iconst 1, 1) := by decide +kernel
theorem dX5_isSo_134 : decode cX5_isSo 134 = .ok (.goto 4, 3) := by decide +kernel
theorem dX5_isSo_137 : decode cX5_isSo 137 = .ok (.iconst 0, 1) := by decide +kernel
theorem dX5_isSo_138 : decode cX5_isSo 138 = .ok (.ireturn, 1) := by decide +kernel
theorem dX5_isSo_139 : decode cX5_isSo 139 = .ok (.aload_n 1, 1) := by decide +kernel
theorem dX5_isSo_140 : decode cX5_isSo 140 = .ok (.getfield 171, 3) := by decide +kernel
theorem dX5_isSo_143 : decode cX5_isSo 143 = .ok (.iload 4, 2) := by decide +kernel
theorem dX5_isSo_145 : decode cX5_isSo 145 = .ok (.invokestatic 341, 3) := by decide +kernel
theorem dX5_isSo_148 : decode cX5_isSo 148 = .ok (.ireturn, 1) := by decide +kernel
theorem dX5_isSo_149 : decode cX5_isSo 149 = .ok (.aload_n 1, 1) := by decide +kernel
theorem dX5_isSo_150 : decode cX5_isSo 150 = .ok (.iload_n 3, 1) := by decide +kernel
theorem dX5_isSo_151 : decode cX5_isSo 151 = .ok (.invokevirtual 133, 3) := by decide +kernel
theorem dX5_isSo_154 : decode cX5_isSo 154 = .ok (.iload 4, 2) := by decide +kernel
theorem dX5_isSo_156 : decode cX5_isSo 156 = .ok (.if_icmp .lt 7, 3) := by decide +kernel
theorem dX5_isSo_159 : decode cX5_isSo 159 = .ok (.iconst 1, 1) := by decide +kernel
theorem dX5_isSo_160 : decode cX5_isSo 160 = .ok (.goto 4, 3) := by decide +kernel
theorem dX5_isSo_163 : decode cX5_isSo 163 = .ok (.iconst 0, 1) := by decide +kernel
theorem dX5_isSo_164 : decode cX5_isSo 164 = .ok (.ireturn, 1) := by decide +kernel
theorem dX5_isNear_0 : decode cX5_isNear 0 = .ok (.iload_n 0, 1) := by decide +kernel
theorem dX5_isNear_1 : decode cX5_isNear 1 = .ok (.iconst (-1), 1) := by decide +kernel
theorem dX5_isNear_2 : decode cX5_isNear 2 = .ok (.if_icmp .eq 21, 3) := by decide +kernel
theorem dX5_isNear_5 : decode cX5_isNear 5 = .ok (.iload_n 0, 1) := by decide +kernel
theorem dX5_isNear_6 : decode cX5_isNear 6 = .ok (.iload_n 1, 1) := by decide +kernel
theorem dX5_isNear_7 : decode cX5_isNear 7 = .ok (.iconst 1, 1) := by decide +kernel
theorem dX5_isNear_8 : decode cX5_isNear 8 = .ok (.isub, 1) := by decide +kernel
theorem dX5_isNear_9 : decode cX5_isNear 9 = .ok (.if_icmp .lt 14, 3) := by decide +kernel
theorem dX5_isNear_12 : decode cX5_isNear 12 = .ok (.iload_n 0, 1) := by decide +kernel
theorem dX5_isNear_13 : decode cX5_isNear 13 = .ok (.iload_n 1, 1) := by decide +kernel
theorem dX5_isNear_14 : decode cX5_isNear 14 = .ok (.iconst 1, 1) := by decide +kernel
theorem dX5_isNear_15 : decode cX5_isNear 15 = .ok (.iadd, 1) := by decide +kernel
theorem dX5_isNear_16 : decode cX5_isNear 16 = .ok (.if_icmp .gt 7, 3) := by decide +kernel
theorem dX5_isNear_19 : decode cX5_isNear 19 = .ok (.iconst 1, 1) := by decide +kernel
theorem dX5_isNear_20 : decode cX5_isNear 20 = .ok (.goto 4, 3) := by decide +kernel
theorem dX5_isNear_23 : decode cX5_isNear 23 = .ok (.iconst 0, 1) := by decide +kernel
theorem dX5_isNear_24 : decode cX5_isNear 24 = .ok (.ireturn, 1) := by decide +kernel
theorem dX5_rowBits_0 : decode cX5_rowBits 0 = .ok (.iconst 1, 1) := by decide +kernel
theorem dX5_rowBits_1 : decode cX5_rowBits 1 = .ok (.aload_n 0, 1) := by decide +kernel
theorem dX5_rowBits_2 : decode cX5_rowBits 2 = .ok (.getfield 39, 3) := by decide +kernel
theorem dX5_rowBits_5 : decode cX5_rowBits 5 = .ok (.getfield 177, 3) := by decide +kernel
theorem dX5_rowBits_8 : decode cX5_rowBits 8 = .ok (.ishl, 1) := by decide +kernel
theorem dX5_rowBits_9 : decode cX5_rowBits 9 = .ok (.iconst 1, 1) := by decide +kernel
theorem dX5_rowBits_10 : decode cX5_rowBits 10 = .ok (.isub, 1) := by decide +kernel
theorem dX5_rowBits_11 : decode cX5_rowBits 11 = .ok (.ireturn, 1) := by decide +kernel
theorem dX5_reckon_0 : decode cX5_reckon 0 = .ok (.lconst 0, 1) := by decide +kernel
theorem dX5_reckon_1 : decode cX5_reckon 1 = .ok (.lstore_n 3, 1) := by decide +kernel
theorem dX5_reckon_2 : decode cX5_reckon 2 = .ok (.iconst 0, 1) := by decide +kernel
theorem dX5_reckon_3 : decode cX5_reckon 3 = .ok (.istore 5, 2) := by decide +kernel
theorem dX5_reckon_5 : decode cX5_reckon 5 = .ok (.iload 5, 2) := by decide +kernel
theorem dX5_reckon_7 : decode cX5_reckon 7 = .ok (.aload_n 0, 1) := by decide +kernel
theorem dX5_reckon_8 : decode cX5_reckon 8 = .ok (.getfield 33, 3) := by decide +kernel
theorem dX5_reckon_11 : decode cX5_reckon 11 = .ok (.if_icmp .ge 129, 3) := by decide +kernel
theorem dX5_reckon_14 : decode cX5_reckon 14 = .ok (.aload_n 0, 1) := by decide +kernel
theorem dX5_reckon_15 : decode cX5_reckon 15 = .ok (.iload 5, 2) := by decide +kernel
theorem dX5_reckon_17 : decode cX5_reckon 17 = .ok (.invokevirtual 120, 3) := by decide +kernel
theorem dX5_reckon_20 : decode cX5_reckon 20 = .ok (.astore 6, 2) := by decide +kernel
theorem dX5_reckon_22 : decode cX5_reckon 22 = .ok (.aload_n 0, 1) := by decide +kernel
theorem dX5_reckon_23 : decode cX5_reckon 23 = .ok (.getfield 39, 3) := by decide +kernel
theorem dX5_reckon_26 : decode cX5_reckon 26 = .ok (.getfield 101, 3) := by decide +kernel
theorem dX5_reckon_29 : decode cX5_reckon 29 = .ok (.iload 5, 2) := by decide +kernel
theorem dX5_reckon_31 : decode cX5_reckon 31 = .ok (.iaload, 1) := by decide +kernel
theorem dX5_reckon_32 : decode cX5_reckon 32 = .ok (.i2l, 1) := by decide +kernel
theorem dX5_reckon_33 : decode cX5_reckon 33 = .ok (.lstore 7, 2) := by decide +kernel
theorem dX5_reckon_35 : decode cX5_reckon 35 = .ok (.iconst 0, 1) := by decide +kernel
theorem dX5_reckon_36 : decode cX5_reckon 36 = .ok (.istore 9, 2) := by decide +kernel
theorem dX5_reckon_38 : decode cX5_reckon 38 = .ok (.iload 9, 2) := by decide +kernel
theorem dX5_reckon_40 : decode cX5_reckon 40 = .ok (.aload_n 0, 1) := by decide +kernel
theorem dX5_reckon_41 : decode cX5_reckon 41 = .ok (.getfield 39, 3) := by decide +kernel
theorem dX5_reckon_44 : decode cX5_reckon 44 = .ok (.getfield 177, 3) := by decide +kernel
theorem dX5_reckon_47 : decode cX5_reckon 47 = .ok (.if_icmp .ge 58, 3) := by decide +kernel
theorem dX5_reckon_50 : decode cX5_reckon 50 = .ok (.iload_n 1, 1) := by decide +kernel
theorem dX5_reckon_51 : decode cX5_reckon 51 = .ok (.iload 9, 2) := by decide +kernel
theorem dX5_reckon_53 : decode cX5_reckon 53 = .ok (.ishr, 1) := by decide +kernel
theorem dX5_reckon_54 : decode cX5_reckon 54 = .ok (.iconst 1, 1) := by decide +kernel
theorem dX5_reckon_55 : decode cX5_reckon 55 = .ok (.iand, 1) := by decide +kernel
theorem dX5_reckon_56 : decode cX5_reckon 56 = .ok (.iconst 1, 1) := by decide +kernel
theorem dX5_reckon_57 : decode cX5_reckon 57 = .ok (.if_icmp .ne 42, 3) := by decide +kernel
theorem dX5_reckon_60 : decode cX5_reckon 60 = .ok (.aload_n 0, 1) := by decide +kernel
theorem dX5_reckon_61 : decode cX5_reckon 61 = .ok (.getfield 39, 3) := by decide +kernel
theorem dX5_reckon_64 : decode cX5_reckon 64 = .ok (.iload 9, 2) := by decide +kernel
theorem dX5_reckon_66 : decode cX5_reckon 66 = .ok (.invokevirtual 201, 3) := by decide +kernel
theorem dX5_reckon_69 : decode cX5_reckon 69 = .ok (.istore 10, 2) := by decide +kernel
theorem dX5_reckon_71 : decode cX5_reckon 71 = .ok (.lload 7, 2) := by decide +kernel
theorem dX5_reckon_73 : decode cX5_reckon 73 = .ok (.aload_n 0, 1) := by decide +kernel
theorem dX5_reckon_74 : decode cX5_reckon 74 = .ok (.aload 6, 2) := by decide +kernel
theorem dX5_reckon_76 : decode cX5_reckon 76 = .ok (.iload 9, 2) := by decide +kernel
theorem dX5_reckon_78 : decode cX5_reckon 78 = .ok (.invokevirtual 204, 3) := by decide +kernel
theorem dX5_reckon_81 : decode cX5_reckon 81 = .ok (.ifCond .eq 12, 3) := by decide +kernel
theorem dX5_reckon_84 : decode cX5_reckon 84 = .ok (.bipush 16, 2) := by decide +kernel
theorem dX5_reckon_86 : decode cX5_reckon 86 = .ok (.iload 10, 2) := by decide +kernel
theorem dX5_reckon_88 : decode cX5_reckon 88 = .ok (.isub, 1) := by decide +kernel
theorem dX5_reckon_89 : decode cX5_reckon 89 = .ok (.i2l, 1) := by decide +kernel
theorem dX5_reckon_90 : decode cX5_reckon 90 = .ok (.goto 6, 3) := by decide +kernel
theorem dX5_reckon_93 : decode cX5_reckon 93 = .ok (.iload 10, 2) := by decide +kernel
theorem dX5_reckon_95 : decode cX5_reckon 95 = .ok (.i2l, 1) := by decide +kernel
theorem dX5_reckon_96 : decode cX5_reckon 96 = .ok (.lmul, 1) := by decide +kernel
theorem dX5_reckon_97 : decode cX5_reckon 97 = .ok (.lstore 7, 2) := by decide +kernel
theorem dX5_reckon_99 : decode cX5_reckon 99 = .ok (.iinc 9 1, 3) := by decide +kernel
theorem dX5_reckon_102 : decode cX5_reckon 102 = .ok (.goto (-64), 3) := by decide +kernel
theorem dX5_reckon_105 : decode cX5_reckon 105 = .ok (.iload_n 2, 1) := by decide +kernel
theorem dX5_reckon_106 : decode cX5_reckon 106 = .ok (.ifCond .eq 14, 3) := by decide +kernel
theorem dX5_reckon_109 : decode cX5_reckon 109 = .ok (.lload 7, 2) := by decide +kernel
theorem dX5_reckon_111 : decode cX5_reckon 111 = .ok (.aload_n 0, 1) := by decide +kernel
theorem dX5_reckon_112 : decode cX5_reckon 112 = .ok (.iload 5, 2) := by decide +kernel
theorem dX5_reckon_114 : decode cX5_reckon 114 = .ok (.invokevirtual 238, 3) := by decide +kernel
theorem dX5_reckon_117 : decode cX5_reckon 117 = .ok (.lshr, 1) := by decide +kernel
theorem dX5_reckon_118 : decode cX5_reckon 118 = .ok (.lstore 7, 2) := by decide +kernel
theorem dX5_reckon_120 : decode cX5_reckon 120 = .ok (.aload_n 0, 1) := by decide +kernel
theorem dX5_reckon_121 : decode cX5_reckon 121 = .ok (.getfield 67, 3) := by decide +kernel
theorem dX5_reckon_124 : decode cX5_reckon 124 = .ok (.iload 5, 2) := by decide +kernel
theorem dX5_reckon_126 : decode cX5_reckon 126 = .ok (.lload 7, 2) := by decide +kernel
theorem dX5_reckon_128 : decode cX5_reckon 128 = .ok (.lastore, 1) := by decide +kernel
theorem dX5_reckon_129 : decode cX5_reckon 129 = .ok (.lload_n 3, 1) := by decide +kernel
theorem dX5_reckon_130 : decode cX5_reckon 130 = .ok (.lload 7, 2) := by decide +kernel
theorem dX5_reckon_132 : decode cX5_reckon 132 = .ok (.ladd, 1) := by decide +kernel
theorem dX5_reckon_133 : decode cX5_reckon 133 = .ok (.lstore_n 3, 1) := by decide +kernel
theorem dX5_reckon_134 : decode cX5_reckon 134 = .ok (.iinc 5 1, 3) := by decide +kernel
theorem dX5_reckon_137 : decode cX5_reckon 137 = .ok (.goto (-132), 3) := by decide +kernel
theorem dX5_reckon_140 : decode cX5_reckon 140 = .ok (.lload_n 3, 1) := by decide +kernel
theorem dX5_reckon_141 : decode cX5_reckon 141 = .ok (.lreturn, 1) := by decide +kernel
theorem dX5_perThousand_0 : decode cX5_perThousand 0 = .ok (.lload_n 2, 1) := by decide +kernel
theorem dX5_perThousand_1 : decode cX5_perThousand 1 = .ok (.lconst 0, 1) := by decide +kernel
theorem dX5_perThousand_2 : decode cX5_perThousand 2 = .ok (.lcmp, 1) := by decide +kernel
theorem dX5_perThousand_3 : decode cX5_perThousand 3 = .ok (.ifCond .ne 7, 3) := by decide +kernel
theorem dX5_perThousand_6 : decode cX5_perThousand 6 = .ok (.iconst 0, 1) := by decide +kernel
theorem dX5_perThousand_7 : decode cX5_perThousand 7 = .ok (.goto 16, 3) := by decide +kernel
theorem dX5_perThousand_10 : decode cX5_perThousand 10 = .ok (.ldc2_w 344, 3) := by decide +kernel
theorem dX5_perThousand_13 : decode cX5_perThousand 13 = .ok (.aload_n 0, 1) := by decide +kernel
theorem dX5_perThousand_14 : decode cX5_perThousand 14 = .ok (.getfield 67, 3) := by decide +kernel
theorem dX5_perThousand_17 : decode cX5_perThousand 17 = .ok (.iload_n 1, 1) := by decide +kernel
theorem dX5_perThousand_18 : decode cX5_perThousand 18 = .ok (.laload, 1) := by decide +kernel
theorem dX5_perThousand_19 : decode cX5_perThousand 19 = .ok (.lmul, 1) := by decide +kernel
theorem dX5_perThousand_20 : decode cX5_perThousand 20 = .ok (.lload_n 2, 1) := by decide +kernel
theorem dX5_perThousand_21 : decode cX5_perThousand 21 = .ok (.ldiv, 1) := by decide +kernel
theorem dX5_perThousand_22 : decode cX5_perThousand 22 = .ok (.l2i, 1) := by decide +kernel
theorem dX5_perThousand_23 : decode cX5_perThousand 23 = .ok (.ireturn, 1) := by decide +kernel
theorem dX5_greatestWorth_0 : decode cX5_greatestWorth 0 = .ok (.iconst (-1), 1) := by decide +kernel
theorem dX5_greatestWorth_1 : decode cX5_greatestWorth 1 = .ok (.istore_n 1, 1) := by decide +kernel
theorem dX5_greatestWorth_2 : decode cX5_greatestWorth 2 = .ok (.iconst 0, 1) := by decide +kernel
theorem dX5_greatestWorth_3 : decode cX5_greatestWorth 3 = .ok (.istore_n 2, 1) := by decide +kernel
theorem dX5_greatestWorth_4 : decode cX5_greatestWorth 4 = .ok (.iload_n 2, 1) := by decide +kernel
theorem dX5_greatestWorth_5 : decode cX5_greatestWorth 5 = .ok (.aload_n 0, 1) := by decide +kernel
theorem dX5_greatestWorth_6 : decode cX5_greatestWorth 6 = .ok (.getfield 33, 3) := by decide +kernel
theorem dX5_greatestWorth_9 : decode cX5_greatestWorth 9 = .ok (.if_icmp .ge 32, 3) := by decide +kernel
theorem dX5_greatestWorth_12 : decode cX5_greatestWorth 12 = .ok (.iload_n 1, 1) := by decide +kernel
theorem dX5_greatestWorth_13 : decode cX5_greatestWorth 13 = .ok (.iconst (-1), 1) := by decide +kernel
theorem dX5_greatestWorth_14 : decode cX5_greatestWorth 14 = .ok (.if_icmp .eq 19, 3) := by decide +kernel
theorem dX5_greatestWorth_17 : decode cX5_greatestWorth 17 = .ok (.aload_n 0, 1) := by decide +kernel
theorem dX5_greatestWorth_18 : decode cX5_greatestWorth 18 = .ok (.getfield 67, 3) := by decide +kernel
theorem dX5_greatestWorth_21 : decode cX5_greatestWorth 21 = .ok (.iload_n 2, 1) := by decide +kernel
theorem dX5_greatestWorth_22 : decode cX5_greatestWorth 22 = .ok (.laload, 1) := by decide +kernel
theorem dX5_greatestWorth_23 : decode cX5_greatestWorth 23 = .ok (.aload_n 0, 1) := by decide +kernel
theorem dX5_greatestWorth_24 : decode cX5_greatestWorth 24 = .ok (.getfield 67, 3) := by decide +kernel
theorem dX5_greatestWorth_27 : decode cX5_greatestWorth 27 = .ok (.iload_n 1, 1) := by decide +kernel
theorem dX5_greatestWorth_28 : decode cX5_greatestWorth 28 = .ok (.laload, 1) := by decide +kernel
theorem dX5_greatestWorth_29 : decode cX5_greatestWorth 29 = .ok (.lcmp, 1) := by decide +kernel
theorem dX5_greatestWorth_30 : decode cX5_greatestWorth 30 = .ok (.ifCond .le 5, 3) := by decide +kernel
theorem dX5_greatestWorth_33 : decode cX5_greatestWorth 33 = .ok (.iload_n 2, 1) := by decide +kernel
theorem dX5_greatestWorth_34 : decode cX5_greatestWorth 34 = .ok (.istore_n 1, 1) := by decide +kernel
theorem dX5_greatestWorth_35 : decode cX5_greatestWorth 35 = .ok (.iinc 2 1, 3) := by decide +kernel
theorem dX5_greatestWorth_38 : decode cX5_greatestWorth 38 = .ok (.goto (-34), 3) := by decide +kernel
theorem dX5_greatestWorth_41 : decode cX5_greatestWorth 41 = .ok (.iload_n 1, 1) := by decide +kernel
theorem dX5_greatestWorth_42 : decode cX5_greatestWorth 42 = .ok (.ireturn, 1) := by decide +kernel
theorem dX5_worthWithFire_0 : decode cX5_worthWithFire 0 = .ok (.lconst 0, 1) := by decide +kernel
theorem dX5_worthWithFire_1 : decode cX5_worthWithFire 1 = .ok (.lstore_n 3, 1) := by decide +kernel
theorem dX5_worthWithFire_2 : decode cX5_worthWithFire 2 = .ok (.iconst 0, 1) := by decide +kernel
theorem dX5_worthWithFire_3 : decode cX5_worthWithFire 3 = .ok (.istore 5, 2) := by decide +kernel
theorem dX5_worthWithFire_5 : decode cX5_worthWithFire 5 = .ok (.iload 5, 2) := by decide +kernel
theorem dX5_worthWithFire_7 : decode cX5_worthWithFire 7 = .ok (.aload_n 0, 1) := by decide +kernel
theorem dX5_worthWithFire_8 : decode cX5_worthWithFire 8 = .ok (.getfield 33, 3) := by decide +kernel
theorem dX5_worthWithFire_11 : decode cX5_worthWithFire 11 = .ok (.if_icmp .ge 34, 3) := by decide +kernel
theorem dX5_worthWithFire_14 : decode cX5_worthWithFire 14 = .ok (.aload_n 0, 1) := by decide +kernel
theorem dX5_worthWithFire_15 : decode cX5_worthWithFire 15 = .ok (.getfield 59, 3) := by decide +kernel
theorem dX5_worthWithFire_18 : decode cX5_worthWithFire 18 = .ok (.iload 5, 2) := by decide +kernel
theorem dX5_worthWithFire_20 : decode cX5_worthWithFire 20 = .ok (.aaload, 1) := by decide +kernel
theorem dX5_worthWithFire_21 : decode cX5_worthWithFire 21 = .ok (.iload_n 1, 1) := by decide +kernel
theorem dX5_worthWithFire_22 : decode cX5_worthWithFire 22 = .ok (.iload_n 2, 1) := by decide +kernel
theorem dX5_worthWithFire_23 : decode cX5_worthWithFire 23 = .ok (.invokevirtual 151, 3) := by decide +kernel
theorem dX5_worthWithFire_26 : decode cX5_worthWithFire 26 = .ok (.ifCond .eq 13, 3) := by decide +kernel
theorem dX5_worthWithFire_29 : decode cX5_worthWithFire 29 = .ok (.lload_n 3, 1) := by decide +kernel
theorem dX5_worthWithFire_30 : decode cX5_worthWithFire 30 = .ok (.aload_n 0, 1) := by decide +kernel
theorem dX5_worthWithFire_31 : decode cX5_worthWithFire 31 = .ok (.getfield 67, 3) := by decide +kernel
theorem dX5_worthWithFire_34 : decode cX5_worthWithFire 34 = .ok (.iload 5, 2) := by decide +kernel
theorem dX5_worthWithFire_36 : decode cX5_worthWithFire 36 = .ok (.laload, 1) := by decide +kernel
theorem dX5_worthWithFire_37 : decode cX5_worthWithFire 37 = .ok (.ladd, 1) := by decide +kernel
theorem dX5_worthWithFire_38 : decode cX5_worthWithFire 38 = .ok (.lstore_n 3, 1) := by decide +kernel
theorem dX5_worthWithFire_39 : decode cX5_worthWithFire 39 = .ok (.iinc 5 1, 3) := by decide +kernel
theorem dX5_worthWithFire_42 : decode cX5_worthWithFire 42 = .ok (.goto (-37), 3) := by decide +kernel
theorem dX5_worthWithFire_45 : decode cX5_worthWithFire 45 = .ok (.lload_n 3, 1) := by decide +kernel
theorem dX5_worthWithFire_46 : decode cX5_worthWithFire 46 = .ok (.lreturn, 1) := by decide +kernel
theorem dX5_leastFor_0 : decode cX5_leastFor 0 = .ok (.iconst (-1), 1) := by decide +kernel
theorem dX5_leastFor_1 : decode cX5_leastFor 1 = .ok (.istore 4, 2) := by decide +kernel
theorem dX5_leastFor_3 : decode cX5_leastFor 3 = .ok (.iconst 0, 1) := by decide +kernel
theorem dX5_leastFor_4 : decode cX5_leastFor 4 = .ok (.istore 5, 2) := by decide +kernel
theorem dX5_leastFor_6 : decode cX5_leastFor 6 = .ok (.iconst 0, 1) := by decide +kernel
theorem dX5_leastFor_7 : decode cX5_leastFor 7 = .ok (.istore 6, 2) := by decide +kernel
theorem dX5_leastFor_9 : decode cX5_leastFor 9 = .ok (.iload 6, 2) := by decide +kernel
theorem dX5_leastFor_11 : decode cX5_leastFor 11 = .ok (.iconst 1, 1) := by decide +kernel
theorem dX5_leastFor_12 : decode cX5_leastFor 12 = .ok (.aload_n 0, 1) := by decide +kernel
theorem dX5_leastFor_13 : decode cX5_leastFor 13 = .ok (.getfield 39, 3) := by decide +kernel
theorem dX5_leastFor_16 : decode cX5_leastFor 16 = .ok (.getfield 241, 3) := by decide +kernel
theorem dX5_leastFor_19 : decode cX5_leastFor 19 = .ok (.ishl, 1) := by decide +kernel
theorem dX5_leastFor_20 : decode cX5_leastFor 20 = .ok (.if_icmp .ge 53, 3) := by decide +kernel
theorem dX5_leastFor_23 : decode cX5_leastFor 23 = .ok (.aload_n 0, 1) := by decide +kernel
theorem dX5_leastFor_24 : decode cX5_leastFor 24 = .ok (.getfield 39, 3) := by decide +kernel
theorem dX5_leastFor_27 : decode cX5_leastFor 27 = .ok (.iload 6, 2) := by decide +kernel
theorem dX5_leastFor_29 : decode cX5_leastFor 29 = .ok (.invokevirtual 346, 3) := by decide +kernel
theorem dX5_leastFor_32 : decode cX5_leastFor 32 = .ok (.istore 7, 2) := by decide +kernel
theorem dX5_leastFor_34 : decode cX5_leastFor 34 = .ok (.iload 4, 2) := by decide +kernel
theorem dX5_leastFor_36 : decode cX5_leastFor 36 = .ok (.iconst (-1), 1) := by decide +kernel
theorem dX5_leastFor_37 : decode cX5_leastFor 37 = .ok (.if_icmp .eq 10, 3) := by decide +kernel
theorem dX5_leastFor_40 : decode cX5_leastFor 40 = .ok (.iload 7, 2) := by decide +kernel
theorem dX5_leastFor_42 : decode cX5_leastFor 42 = .ok (.iload 5, 2) := by decide +kernel
theorem dX5_leastFor_44 : decode cX5_leastFor 44 = .ok (.if_icmp .ge 23, 3) := by decide +kernel
theorem dX5_leastFor_47 : decode cX5_leastFor 47 = .ok (.aload_n 0, 1) := by decide +kernel
theorem dX5_leastFor_48 : decode cX5_leastFor 48 = .ok (.iload_n 1, 1) := by decide +kernel
theorem dX5_leastFor_49 : decode cX5_leastFor 49 = .ok (.iload_n 2, 1) := by decide +kernel
theorem dX5_leastFor_50 : decode cX5_leastFor 50 = .ok (.iload 6, 2) := by decide +kernel
theorem dX5_leastFor_52 : decode cX5_leastFor 52 = .ok (.iload_n 3, 1) := by decide +kernel
theorem dX5_leastFor_53 : decode cX5_leastFor 53 = .ok (.invokevirtual 253, 3) := by decide +kernel
theorem dX5_leastFor_56 : decode cX5_leastFor 56 = .ok (.ifCond .eq 11, 3) := by decide +kernel
theorem dX5_leastFor_59 : decode cX5_leastFor 59 = .ok (.iload 6, 2) := by decide +kernel
theorem dX5_leastFor_61 : decode cX5_leastFor 61 = .ok (.istore 4, 2) := by decide +kernel
theorem dX5_leastFor_63 : decode cX5_leastFor 63 = .ok (.iload 7, 2) := by decide +kernel
theorem dX5_leastFor_65 : decode cX5_leastFor 65 = .ok (.istore 5, 2) := by decide +kernel
theorem dX5_leastFor_67 : decode cX5_leastFor 67 = .ok (.iinc 6 1, 3) := by decide +kernel
theorem dX5_leastFor_70 : decode cX5_leastFor 70 = .ok (.goto (-61), 3) := by decide +kernel
theorem dX5_leastFor_73 : decode cX5_leastFor 73 = .ok (.iload 4, 2) := by decide +kernel
theorem dX5_leastFor_75 : decode cX5_leastFor 75 = .ok (.ireturn, 1) := by decide +kernel
theorem dX5_areSafe_0 : decode cX5_areSafe 0 = .ok (.iload_n 1, 1) := by decide +kernel
theorem dX5_areSafe_1 : decode cX5_areSafe 1 = .ok (.istore 5, 2) := by decide +kernel
theorem dX5_areSafe_3 : decode cX5_areSafe 3 = .ok (.iload 5, 2) := by decide +kernel
theorem dX5_areSafe_5 : decode cX5_areSafe 5 = .ok (.iload_n 2, 1) := by decide +kernel
theorem dX5_areSafe_6 : decode cX5_areSafe 6 = .ok (.if_icmp .gt 73, 3) := by decide +kernel
theorem dX5_areSafe_9 : decode cX5_areSafe 9 = .ok (.aload_n 0, 1) := by decide +kernel
theorem dX5_areSafe_10 : decode cX5_areSafe 10 = .ok (.getfield 53, 3) := by decide +kernel
theorem dX5_areSafe_13 : decode cX5_areSafe 13 = .ok (.aload_n 0, 1) := by decide +kernel
theorem dX5_areSafe_14 : decode cX5_areSafe 14 = .ok (.getfield 39, 3) := by decide +kernel
theorem dX5_areSafe_17 : decode cX5_areSafe 17 = .ok (.invokevirtual 281, 3) := by decide +kernel
theorem dX5_areSafe_20 : decode cX5_areSafe 20 = .ok (.aload_n 0, 1) := by decide +kernel
theorem dX5_areSafe_21 : decode cX5_areSafe 21 = .ok (.getfield 39, 3) := by decide +kernel
theorem dX5_areSafe_24 : decode cX5_areSafe 24 = .ok (.iload_n 3, 1) := by decide +kernel
theorem dX5_areSafe_25 : decode cX5_areSafe 25 = .ok (.aload_n 0, 1) := by decide +kernel
theorem dX5_areSafe_26 : decode cX5_areSafe 26 = .ok (.getfield 53, 3) := by decide +kernel
theorem dX5_areSafe_29 : decode cX5_areSafe 29 = .ok (.getfield 285, 3) := by decide +kernel
theorem dX5_areSafe_32 : decode cX5_areSafe 32 = .ok (.invokevirtual 349, 3) := by decide +kernel
theorem dX5_areSafe_35 : decode cX5_areSafe 35 = .ok (.aload_n 0, 1) := by decide +kernel
theorem dX5_areSafe_36 : decode cX5_areSafe 36 = .ok (.getfield 53, 3) := by decide +kernel
theorem dX5_areSafe_39 : decode cX5_areSafe 39 = .ok (.aload_n 0, 1) := by decide +kernel
theorem dX5_areSafe_40 : decode cX5_areSafe 40 = .ok (.getfield 29, 3) := by decide +kernel
theorem dX5_areSafe_43 : decode cX5_areSafe 43 = .ok (.iload 5, 2) := by decide +kernel
theorem dX5_areSafe_45 : decode cX5_areSafe 45 = .ok (.aaload, 1) := by decide +kernel
theorem dX5_areSafe_46 : decode cX5_areSafe 46 = .ok (.invokevirtual 286, 3) := by decide +kernel
theorem dX5_areSafe_49 : decode cX5_areSafe 49 = .ok (.aload_n 0, 1) := by decide +kernel
theorem dX5_areSafe_50 : decode cX5_areSafe 50 = .ok (.getfield 53, 3) := by decide +kernel
theorem dX5_areSafe_53 : decode cX5_areSafe 53 = .ok (.invokevirtual 353, 3) := by decide +kernel
theorem dX5_areSafe_56 : decode cX5_areSafe 56 = .ok (.istore 6, 2) := by decide +kernel
theorem dX5_areSafe_58 : decode cX5_areSafe 58 = .ok (.iload 6, 2) := by decide +kernel
theorem dX5_areSafe_60 : decode cX5_areSafe 60 = .ok (.iconst (-1), 1) := by decide +kernel
theorem dX5_areSafe_61 : decode cX5_areSafe 61 = .ok (.if_icmp .eq 12, 3) := by decide +kernel
theorem dX5_areSafe_64 : decode cX5_areSafe 64 = .ok (.iload 6, 2) := by decide +kernel
theorem dX5_areSafe_66 : decode cX5_areSafe 66 = .ok (.iload 4, 2) := by decide +kernel
theorem dX5_areSafe_68 : decode cX5_areSafe 68 = .ok (.if_icmp .ge 5, 3) := by decide +kernel
theorem dX5_areSafe_71 : decode cX5_areSafe 71 = .ok (.iconst 0, 1) := by decide +kernel
theorem dX5_areSafe_72 : decode cX5_areSafe 72 = .ok (.ireturn, 1) := by decide +kernel
theorem dX5_areSafe_73 : decode cX5_areSafe 73 = .ok (.iinc 5 1, 3) := by decide +kernel
theorem dX5_areSafe_76 : decode cX5_areSafe 76 = .ok (.goto (-73), 3) := by decide +kernel
theorem dX5_areSafe_79 : decode cX5_areSafe 79 = .ok (.iconst 1, 1) := by decide +kernel
theorem dX5_areSafe_80 : decode cX5_areSafe 80 = .ok (.ireturn, 1) := by decide +kernel
theorem dX5_areAlike_0 : decode cX5_areAlike 0 = .ok (.aload_n 0, 1) := by decide +kernel
theorem dX5_areAlike_1 : decode cX5_areAlike 1 = .ok (.getfield 137, 3) := by decide +kernel
theorem dX5_areAlike_4 : decode cX5_areAlike 4 = .ok (.iload_n 2, 1) := by decide +kernel
theorem dX5_areAlike_5 : decode cX5_areAlike 5 = .ok (.iaload, 1) := by decide +kernel
theorem dX5_areAlike_6 : decode cX5_areAlike 6 = .ok (.aload_n 1, 1) := by decide +kernel
theorem dX5_areAlike_7 : decode cX5_areAlike 7 = .ok (.getfield 137, 3) := by decide +kernel
theorem dX5_areAlike_10 : decode cX5_areAlike 10 = .ok (.iload_n 2, 1) := by decide +kernel
theorem dX5_areAlike_11 : decode cX5_areAlike 11 = .ok (.iaload, 1) := by decide +kernel
theorem dX5_areAlike_12 : decode cX5_areAlike 12 = .ok (.if_icmp .eq 5, 3) := by decide +kernel
theorem dX5_areAlike_15 : decode cX5_areAlike 15 = .ok (.iconst 0, 1) := by decide +kernel
theorem dX5_areAlike_16 : decode cX5_areAlike 16 = .ok (.ireturn, 1) := by decide +kernel
theorem dX5_areAlike_17 : decode cX5_areAlike 17 = .ok (.iconst 0, 1) := by decide +kernel
theorem dX5_areAlike_18 : decode cX5_areAlike 18 = .ok (.istore_n 3, 1) := by decide +kernel
theorem dX5_areAlike_19 : decode cX5_areAlike 19 = .ok (.iload_n 3, 1) := by decide +kernel
theorem dX5_areAlike_20 : decode cX5_areAlike 20 = .ok (.bipush 8, 2) := by decide +kernel
theorem dX5_areAlike_22 : decode cX5_areAlike 22 = .ok (.if_icmp .ge 68, 3) := by decide +kernel
theorem dX5_areAlike_25 : decode cX5_areAlike 25 = .ok (.iload_n 2, 1) := by decide +kernel
theorem dX5_areAlike_26 : decode cX5_areAlike 26 = .ok (.bipush 8, 2) := by decide +kernel
theorem dX5_areAlike_28 : decode cX5_areAlike 28 = .ok (.imul, 1) := by decide +kernel
theorem dX5_areAlike_29 : decode cX5_areAlike 29 = .ok (.iload_n 3, 1) := by decide +kernel
theorem dX5_areAlike_30 : decode cX5_areAlike 30 = .ok (.iadd, 1) := by decide +kernel
theorem dX5_areAlike_31 : decode cX5_areAlike 31 = .ok (.istore 4, 2) := by decide +kernel
theorem dX5_areAlike_33 : decode cX5_areAlike 33 = .ok (.aload_n 0, 1) := by decide +kernel
theorem dX5_areAlike_34 : decode cX5_areAlike 34 = .ok (.getfield 158, 3) := by decide +kernel
theorem dX5_areAlike_37 : decode cX5_areAlike 37 = .ok (.iload 4, 2) := by decide +kernel
theorem dX5_areAlike_39 : decode cX5_areAlike 39 = .ok (.iaload, 1) := by decide +kernel
theorem dX5_areAlike_40 : decode cX5_areAlike 40 = .ok (.aload_n 1, 1) := by decide +kernel
theorem dX5_areAlike_41 : decode cX5_areAlike 41 = .ok (.getfield 158, 3) := by decide +kernel
theorem dX5_areAlike_44 : decode cX5_areAlike 44 = .ok (.iload 4, 2) := by decide +kernel
theorem dX5_areAlike_46 : decode cX5_areAlike 46 = .ok (.iaload, 1) := by decide +kernel
theorem dX5_areAlike_47 : decode cX5_areAlike 47 = .ok (.if_icmp .ne 35, 3) := by decide +kernel
theorem dX5_areAlike_50 : decode cX5_areAlike 50 = .ok (.aload_n 0, 1) := by decide +kernel
theorem dX5_areAlike_51 : decode cX5_areAlike 51 = .ok (.getfield 159, 3) := by decide +kernel
theorem dX5_areAlike_54 : decode cX5_areAlike 54 = .ok (.iload 4, 2) := by decide +kernel
theorem dX5_areAlike_56 : decode cX5_areAlike 56 = .ok (.iaload, 1) := by decide +kernel
theorem dX5_areAlike_57 : decode cX5_areAlike 57 = .ok (.aload_n 1, 1) := by decide +kernel
theorem dX5_areAlike_58 : decode cX5_areAlike 58 = .ok (.getfield 159, 3) := by decide +kernel
theorem dX5_areAlike_61 : decode cX5_areAlike 61 = .ok (.iload 4, 2) := by decide +kernel
theorem dX5_areAlike_63 : decode cX5_areAlike 63 = .ok (.iaload, 1) := by decide +kernel
theorem dX5_areAlike_64 : decode cX5_areAlike 64 = .ok (.if_icmp .ne 18, 3) := by decide +kernel
theorem dX5_areAlike_67 : decode cX5_areAlike 67 = .ok (.aload_n 0, 1) := by decide +kernel
theorem dX5_areAlike_68 : decode cX5_areAlike 68 = .ok (.iload_n 3, 1) := by decide +kernel
theorem dX5_areAlike_69 : decode cX5_areAlike 69 = .ok (.iload_n 2, 1) := by decide +kernel
theorem dX5_areAlike_70 : decode cX5_areAlike 70 = .ok (.invokevirtual 151, 3) := by decide +kernel
theorem dX5_areAlike_73 : decode cX5_areAlike 73 = .ok (.aload_n 1, 1) := by decide +kernel
theorem dX5_areAlike_74 : decode cX5_areAlike 74 = .ok (.iload_n 3, 1) := by decide +kernel
theorem dX5_areAlike_75 : decode cX5_areAlike 75 = .ok (.iload_n 2, 1) := by decide +kernel
theorem dX5_areAlike_76 : decode cX5_areAlike 76 = .ok (.invokevirtual 151, 3) := by decide +kernel
theorem dX5_areAlike_79 : decode cX5_areAlike 79 = .ok (.if_icmp .eq 5, 3) := by decide +kernel
theorem dX5_areAlike_82 : decode cX5_areAlike 82 = .ok (.iconst 0, 1) := by decide +kernel
theorem dX5_areAlike_83 : decode cX5_areAlike 83 = .ok (.ireturn, 1) := by decide +kernel
theorem dX5_areAlike_84 : decode cX5_areAlike 84 = .ok (.iinc 3 1, 3) := by decide +kernel
theorem dX5_areAlike_87 : decode cX5_areAlike 87 = .ok (.goto (-68), 3) := by decide +kernel
theorem dX5_areAlike_90 : decode cX5_areAlike 90 = .ok (.iconst 1, 1) := by decide +kernel
theorem dX5_areAlike_91 : decode cX5_areAlike 91 = .ok (.ireturn, 1) := by decide +kernel
