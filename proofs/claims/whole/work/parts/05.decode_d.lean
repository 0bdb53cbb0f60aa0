theorem dX11_init_0 : decode cX11_init 0 = .ok (.aload_n 0, 1) := by decide +kernel
theorem dX11_init_1 : decode cX11_init 1 = .ok (.invokespecial 1, 3) := by decide +kernel
theorem dX11_init_4 : decode cX11_init 4 = .ok (.aload_n 0, 1) := by decide +kernel
theorem dX11_init_5 : decode cX11_init 5 = .ok (.sipush 240, 3) := by decide +kernel
theorem dX11_init_8 : decode cX11_init 8 = .ok (.newarray .int, 2) := by decide +kernel
theorem dX11_init_10 : decode cX11_init 10 = .ok (.putfield 7, 3) := by decide +kernel
theorem dX11_init_13 : decode cX11_init 13 = .ok (.aload_n 0, 1) := by decide +kernel
theorem dX11_init_14 : decode cX11_init 14 = .ok (.bipush 70, 2) := by decide +kernel
theorem dX11_init_16 : decode cX11_init 16 = .ok (.newarray .int, 2) := by decide +kernel
theorem dX11_init_18 : decode cX11_init 18 = .ok (.putfield 13, 3) := by decide +kernel
theorem dX11_init_21 : decode cX11_init 21 = .ok (.aload_n 0, 1) := by decide +kernel
theorem dX11_init_22 : decode cX11_init 22 = .ok (.bipush 70, 2) := by decide +kernel
theorem dX11_init_24 : decode cX11_init 24 = .ok (.newarray .int, 2) := by decide +kernel
theorem dX11_init_26 : decode cX11_init 26 = .ok (.putfield 16, 3) := by decide +kernel
theorem dX11_init_29 : decode cX11_init 29 = .ok (.aload_n 0, 1) := by decide +kernel
theorem dX11_init_30 : decode cX11_init 30 = .ok (.sipush 134, 3) := by decide +kernel
theorem dX11_init_33 : decode cX11_init 33 = .ok (.newarray .int, 2) := by decide +kernel
theorem dX11_init_35 : decode cX11_init 35 = .ok (.putfield 19, 3) := by decide +kernel
theorem dX11_init_38 : decode cX11_init 38 = .ok (.aload_n 0, 1) := by decide +kernel
theorem dX11_init_39 : decode cX11_init 39 = .ok (.sipush 268, 3) := by decide +kernel
theorem dX11_init_42 : decode cX11_init 42 = .ok (.newarray .int, 2) := by decide +kernel
theorem dX11_init_44 : decode cX11_init 44 = .ok (.putfield 22, 3) := by decide +kernel
theorem dX11_init_47 : decode cX11_init 47 = .ok (.aload_n 0, 1) := by decide +kernel
theorem dX11_init_48 : decode cX11_init 48 = .ok (.iconst 2, 1) := by decide +kernel
theorem dX11_init_49 : decode cX11_init 49 = .ok (.newarray .boolean, 2) := by decide +kernel
theorem dX11_init_51 : decode cX11_init 51 = .ok (.putfield 25, 3) := by decide +kernel
theorem dX11_init_54 : decode cX11_init 54 = .ok (.aload_n 0, 1) := by decide +kernel
theorem dX11_init_55 : decode cX11_init 55 = .ok (.sipush 2144, 3) := by decide +kernel
theorem dX11_init_58 : decode cX11_init 58 = .ok (.newarray .int, 2) := by decide +kernel
theorem dX11_init_60 : decode cX11_init 60 = .ok (.putfield 29, 3) := by decide +kernel
theorem dX11_init_63 : decode cX11_init 63 = .ok (.aload_n 0, 1) := by decide +kernel
theorem dX11_init_64 : decode cX11_init 64 = .ok (.bipush 6, 2) := by decide +kernel
theorem dX11_init_66 : decode cX11_init 66 = .ok (.newarray .int, 2) := by decide +kernel
theorem dX11_init_68 : decode cX11_init 68 = .ok (.putfield 32, 3) := by decide +kernel
theorem dX11_init_71 : decode cX11_init 71 = .ok (.aload_n 0, 1) := by decide +kernel
theorem dX11_init_72 : decode cX11_init 72 = .ok (.bipush 6, 2) := by decide +kernel
theorem dX11_init_74 : decode cX11_init 74 = .ok (.newarray .boolean, 2) := by decide +kernel
theorem dX11_init_76 : decode cX11_init 76 = .ok (.putfield 35, 3) := by decide +kernel
theorem dX11_init_79 : decode cX11_init 79 = .ok (.aload_n 0, 1) := by decide +kernel
theorem dX11_init_80 : decode cX11_init 80 = .ok (.bipush 15, 2) := by decide +kernel
theorem dX11_init_82 : decode cX11_init 82 = .ok (.newarray .int, 2) := by decide +kernel
theorem dX11_init_84 : decode cX11_init 84 = .ok (.putfield 38, 3) := by decide +kernel
theorem dX11_init_87 : decode cX11_init 87 = .ok (.aload_n 0, 1) := by decide +kernel
theorem dX11_init_88 : decode cX11_init 88 = .ok (.bipush 15, 2) := by decide +kernel
theorem dX11_init_90 : decode cX11_init 90 = .ok (.newarray .int, 2) := by decide +kernel
theorem dX11_init_92 : decode cX11_init 92 = .ok (.putfield 41, 3) := by decide +kernel
theorem dX11_init_95 : decode cX11_init 95 = .ok (.aload_n 0, 1) := by decide +kernel
theorem dX11_init_96 : decode cX11_init 96 = .ok (.bipush 8, 2) := by decide +kernel
theorem dX11_init_98 : decode cX11_init 98 = .ok (.newarray .int, 2) := by decide +kernel
theorem dX11_init_100 : decode cX11_init 100 = .ok (.putfield 44, 3) := by decide +kernel
theorem dX11_init_103 : decode cX11_init 103 = .ok (.aload_n 0, 1) := by decide +kernel
theorem dX11_init_104 : decode cX11_init 104 = .ok (.sipush 5120, 3) := by decide +kernel
theorem dX11_init_107 : decode cX11_init 107 = .ok (.newarray .int, 2) := by decide +kernel
theorem dX11_init_109 : decode cX11_init 109 = .ok (.putfield 47, 3) := by decide +kernel
theorem dX11_init_112 : decode cX11_init 112 = .ok (.aload_n 0, 1) := by decide +kernel
theorem dX11_init_113 : decode cX11_init 113 = .ok (.bipush 9, 2) := by decide +kernel
theorem dX11_init_115 : decode cX11_init 115 = .ok (.newarray .int, 2) := by decide +kernel
theorem dX11_init_117 : decode cX11_init 117 = .ok (.putfield 50, 3) := by decide +kernel
theorem dX11_init_120 : decode cX11_init 120 = .ok (.aload_n 0, 1) := by decide +kernel
theorem dX11_init_121 : decode cX11_init 121 = .ok (.bipush 9, 2) := by decide +kernel
theorem dX11_init_123 : decode cX11_init 123 = .ok (.newarray .int, 2) := by decide +kernel
theorem dX11_init_125 : decode cX11_init 125 = .ok (.putfield 53, 3) := by decide +kernel
theorem dX11_init_128 : decode cX11_init 128 = .ok (.aload_n 0, 1) := by decide +kernel
theorem dX11_init_129 : decode cX11_init 129 = .ok (.bipush 9, 2) := by decide +kernel
theorem dX11_init_131 : decode cX11_init 131 = .ok (.newarray .int, 2) := by decide +kernel
theorem dX11_init_133 : decode cX11_init 133 = .ok (.putfield 56, 3) := by decide +kernel
theorem dX11_init_136 : decode cX11_init 136 = .ok (.aload_n 0, 1) := by decide +kernel
theorem dX11_init_137 : decode cX11_init 137 = .ok (.iconst (-1), 1) := by decide +kernel
theorem dX11_init_138 : decode cX11_init 138 = .ok (.putfield 59, 3) := by decide +kernel
theorem dX11_init_141 : decode cX11_init 141 = .ok (.iconst 0, 1) := by decide +kernel
theorem dX11_init_142 : decode cX11_init 142 = .ok (.istore_n 1, 1) := by decide +kernel
theorem dX11_init_143 : decode cX11_init 143 = .ok (.iload_n 1, 1) := by decide +kernel
theorem dX11_init_144 : decode cX11_init 144 = .ok (.bipush 9, 2) := by decide +kernel
theorem dX11_init_146 : decode cX11_init 146 = .ok (.if_icmp .ge 19, 3) := by decide +kernel
theorem dX11_init_149 : decode cX11_init 149 = .ok (.aload_n 0, 1) := by decide +kernel
theorem dX11_init_150 : decode cX11_init 150 = .ok (.getfield 19, 3) := by decide +kernel
theorem dX11_init_153 : decode cX11_init 153 = .ok (.bipush 24, 2) := by decide +kernel
theorem dX11_init_155 : decode cX11_init 155 = .ok (.iload_n 1, 1) := by decide +kernel
theorem dX11_init_156 : decode cX11_init 156 = .ok (.iadd, 1) := by decide +kernel
theorem dX11_init_157 : decode cX11_init 157 = .ok (.iconst (-1), 1) := by decide +kernel
theorem dX11_init_158 : decode cX11_init 158 = .ok (.iastore, 1) := by decide +kernel
theorem dX11_init_159 : decode cX11_init 159 = .ok (.iinc 1 1, 3) := by decide +kernel
theorem dX11_init_162 : decode cX11_init 162 = .ok (.goto (-19), 3) := by decide +kernel
theorem dX11_init_165 : decode cX11_init 165 = .ok (.return_, 1) := by decide +kernel
theorem dX11_in_0 : decode cX11_in 0 = .ok (.iload_n 0, 1) := by decide +kernel
theorem dX11_in_1 : decode cX11_in 1 = .ok (.iload_n 1, 1) := by decide +kernel
theorem dX11_in_2 : decode cX11_in 2 = .ok (.if_icmp .lt 12, 3) := by decide +kernel
theorem dX11_in_5 : decode cX11_in 5 = .ok (.iload_n 0, 1) := by decide +kernel
theorem dX11_in_6 : decode cX11_in 6 = .ok (.iload_n 2, 1) := by decide +kernel
theorem dX11_in_7 : decode cX11_in 7 = .ok (.if_icmp .gt 7, 3) := by decide +kernel
theorem dX11_in_10 : decode cX11_in 10 = .ok (.iconst 1, 1) := by decide +kernel
theorem dX11_in_11 : decode cX11_in 11 = .ok (.goto 4, 3) := by decide +kernel
theorem dX11_in_14 : decode cX11_in 14 = .ok (.iconst 0, 1) := by decide +kernel
theorem dX11_in_15 : decode cX11_in 15 = .ok (.ireturn, 1) := by decide +kernel
theorem dX11_has_0 : decode cX11_has 0 = .ok (.iload_n 0, 1) := by decide +kernel
theorem dX11_has_1 : decode cX11_has 1 = .ok (.iload_n 1, 1) := by decide +kernel
theorem dX11_has_2 : decode cX11_has 2 = .ok (.ishr, 1) := by decide +kernel
theorem dX11_has_3 : decode cX11_has 3 = .ok (.iconst 1, 1) := by decide +kernel
theorem dX11_has_4 : decode cX11_has 4 = .ok (.iand, 1) := by decide +kernel
theorem dX11_has_5 : decode cX11_has 5 = .ok (.iconst 1, 1) := by decide +kernel
theorem dX11_has_6 : decode cX11_has 6 = .ok (.if_icmp .ne 7, 3) := by decide +kernel
theorem dX11_has_9 : decode cX11_has 9 = .ok (.iconst 1, 1) := by decide +kernel
theorem dX11_has_10 : decode cX11_has 10 = .ok (.goto 4, 3) := by decide +kernel
theorem dX11_has_13 : decode cX11_has 13 = .ok (.iconst 0, 1) := by decide +kernel
theorem dX11_has_14 : decode cX11_has 14 = .ok (.ireturn, 1) := by decide +kernel
theorem dX11_ones_0 : decode cX11_ones 0 = .ok (.iconst 0, 1) := by decide +kernel
theorem dX11_ones_1 : decode cX11_ones 1 = .ok (.istore_n 1, 1) := by decide +kernel
theorem dX11_ones_2 : decode cX11_ones 2 = .ok (.iconst 0, 1) := by decide +kernel
theorem dX11_ones_3 : decode cX11_ones 3 = .ok (.istore_n 2, 1) := by decide +kernel
theorem dX11_ones_4 : decode cX11_ones 4 = .ok (.iload_n 2, 1) := by decide +kernel
theorem dX11_ones_5 : decode cX11_ones 5 = .ok (.bipush 9, 2) := by decide +kernel
theorem dX11_ones_7 : decode cX11_ones 7 = .ok (.if_icmp .ge 17, 3) := by decide +kernel
theorem dX11_ones_10 : decode cX11_ones 10 = .ok (.iload_n 1, 1) := by decide +kernel
theorem dX11_ones_11 : decode cX11_ones 11 = .ok (.iload_n 0, 1) := by decide +kernel
theorem dX11_ones_12 : decode cX11_ones 12 = .ok (.iload_n 2, 1) := by decide +kernel
theorem dX11_ones_13 : decode cX11_ones 13 = .ok (.ishr, 1) := by decide +kernel
theorem dX11_ones_14 : decode cX11_ones 14 = .ok (.iconst 1, 1) := by decide +kernel
theorem dX11_ones_15 : decode cX11_ones 15 = .ok (.iand, 1) := by decide +kernel
theorem dX11_ones_16 : decode cX11_ones 16 = .ok (.iadd, 1) := by decide +kernel
theorem dX11_ones_17 : decode cX11_ones 17 = .ok (.istore_n 1, 1) := by decide +kernel
theorem dX11_ones_18 : decode cX11_ones 18 = .ok (.iinc 2 1, 3) := by decide +kernel
theorem dX11_ones_21 : decode cX11_ones 21 = .ok (.goto (-17), 3) := by decide +kernel
theorem dX11_ones_24 : decode cX11_ones 24 = .ok (.iload_n 1, 1) := by decide +kernel
theorem dX11_ones_25 : decode cX11_ones 25 = .ok (.ireturn, 1) := by decide +kernel
theorem dX11_feed_0 : decode cX11_feed 0 = .ok (.aload_n 0, 1) := by decide +kernel
theorem dX11_feed_1 : decode cX11_feed 1 = .ok (.iconst 0, 1) := by decide +kernel
theorem dX11_feed_2 : decode cX11_feed 2 = .ok (.putfield 63, 3) := by decide +kernel
theorem dX11_feed_5 : decode cX11_feed 5 = .ok (.iload_n 1, 1) := by decide +kernel
theorem dX11_feed_6 : decode cX11_feed 6 = .ok (.iconst 0, 1) := by decide +kernel
theorem dX11_feed_7 : decode cX11_feed 7 = .ok (.sipush 255, 3) := by decide +kernel
theorem dX11_feed_10 : decode cX11_feed 10 = .ok (.invokestatic 66, 3) := by decide +kernel
theorem dX11_feed_13 : decode cX11_feed 13 = .ok (.ifCond .ne 6, 3) := by decide +kernel
theorem dX11_feed_16 : decode cX11_feed 16 = .ok (.ldc 70, 2) := by decide +kernel
theorem dX11_feed_18 : decode cX11_feed 18 = .ok (.ireturn, 1) := by decide +kernel
theorem dX11_feed_19 : decode cX11_feed 19 = .ok (.aload_n 0, 1) := by decide +kernel
theorem dX11_feed_20 : decode cX11_feed 20 = .ok (.getfield 71, 3) := by decide +kernel
theorem dX11_feed_23 : decode cX11_feed 23 = .ok (.sipush 240, 3) := by decide +kernel
theorem dX11_feed_26 : decode cX11_feed 26 = .ok (.if_icmp .ne 6, 3) := by decide +kernel
theorem dX11_feed_29 : decode cX11_feed 29 = .ok (.ldc 74, 2) := by decide +kernel
theorem dX11_feed_31 : decode cX11_feed 31 = .ok (.ireturn, 1) := by decide +kernel
theorem dX11_feed_32 : decode cX11_feed 32 = .ok (.aload_n 0, 1) := by decide +kernel
theorem dX11_feed_33 : decode cX11_feed 33 = .ok (.getfield 7, 3) := by decide +kernel
theorem dX11_feed_36 : decode cX11_feed 36 = .ok (.aload_n 0, 1) := by decide +kernel
theorem dX11_feed_37 : decode cX11_feed 37 = .ok (.getfield 71, 3) := by decide +kernel
theorem dX11_feed_40 : decode cX11_feed 40 = .ok (.iload_n 1, 1) := by decide +kernel
theorem dX11_feed_41 : decode cX11_feed 41 = .ok (.iastore, 1) := by decide +kernel
theorem dX11_feed_42 : decode cX11_feed 42 = .ok (.aload_n 0, 1) := by decide +kernel
theorem dX11_feed_43 : decode cX11_feed 43 = .ok (.dup, 1) := by decide +kernel
theorem dX11_feed_44 : decode cX11_feed 44 = .ok (.getfield 71, 3) := by decide +kernel
theorem dX11_feed_47 : decode cX11_feed 47 = .ok (.iconst 1, 1) := by decide +kernel
theorem dX11_feed_48 : decode cX11_feed 48 = .ok (.iadd, 1) := by decide +kernel
theorem dX11_feed_49 : decode cX11_feed 49 = .ok (.putfield 71, 3) := by decide +kernel
theorem dX11_feed_52 : decode cX11_feed 52 = .ok (.aload_n 0, 1) := by decide +kernel
theorem dX11_feed_53 : decode cX11_feed 53 = .ok (.getfield 71, 3) := by decide +kernel
theorem dX11_feed_56 : decode cX11_feed 56 = .ok (.ireturn, 1) := by decide +kernel
theorem dX11_letterAt_0 : decode cX11_letterAt 0 = .ok (.iload_n 1, 1) := by decide +kernel
theorem dX11_letterAt_1 : decode cX11_letterAt 1 = .ok (.aload_n 0, 1) := by decide +kernel
theorem dX11_letterAt_2 : decode cX11_letterAt 2 = .ok (.getfield 71, 3) := by decide +kernel
theorem dX11_letterAt_5 : decode cX11_letterAt 5 = .ok (.if_icmp .ge 12, 3) := by decide +kernel
theorem dX11_letterAt_8 : decode cX11_letterAt 8 = .ok (.aload_n 0, 1) := by decide +kernel
theorem dX11_letterAt_9 : decode cX11_letterAt 9 = .ok (.getfield 7, 3) := by decide +kernel
theorem dX11_letterAt_12 : decode cX11_letterAt 12 = .ok (.iload_n 1, 1) := by decide +kernel
theorem dX11_letterAt_13 : decode cX11_letterAt 13 = .ok (.iaload, 1) := by decide +kernel
theorem dX11_letterAt_14 : decode cX11_letterAt 14 = .ok (.goto 4, 3) := by decide +kernel
theorem dX11_letterAt_17 : decode cX11_letterAt 17 = .ok (.iconst (-1), 1) := by decide +kernel
theorem dX11_letterAt_18 : decode cX11_letterAt 18 = .ok (.ireturn, 1) := by decide +kernel
theorem dX11_blanks_0 : decode cX11_blanks 0 = .ok (.aload_n 0, 1) := by decide +kernel
theorem dX11_blanks_1 : decode cX11_blanks 1 = .ok (.aload_n 0, 1) := by decide +kernel
theorem dX11_blanks_2 : decode cX11_blanks 2 = .ok (.getfield 75, 3) := by decide +kernel
theorem dX11_blanks_5 : decode cX11_blanks 5 = .ok (.invokevirtual 78, 3) := by decide +kernel
theorem dX11_blanks_8 : decode cX11_blanks 8 = .ok (.bipush 32, 2) := by decide +kernel
theorem dX11_blanks_10 : decode cX11_blanks 10 = .ok (.if_icmp .ne 16, 3) := by decide +kernel
theorem dX11_blanks_13 : decode cX11_blanks 13 = .ok (.aload_n 0, 1) := by decide +kernel
theorem dX11_blanks_14 : decode cX11_blanks 14 = .ok (.dup, 1) := by decide +kernel
theorem dX11_blanks_15 : decode cX11_blanks 15 = .ok (.getfield 75, 3) := by decide +kernel
theorem dX11_blanks_18 : decode cX11_blanks 18 = .ok (.iconst 1, 1) := by decide +kernel
theorem dX11_blanks_19 : decode cX11_blanks 19 = .ok (.iadd, 1) := by decide +kernel
theorem dX11_blanks_20 : decode cX11_blanks 20 = .ok (.putfield 75, 3) := by decide +kernel
theorem dX11_blanks_23 : decode cX11_blanks 23 = .ok (.goto (-23), 3) := by decide +kernel
theorem dX11_blanks_26 : decode cX11_blanks 26 = .ok (.return_, 1) := by decide +kernel
theorem dX11_isWell_0 : decode cX11_isWell 0 = .ok (.aload_n 0, 1) := by decide +kernel
theorem dX11_isWell_1 : decode cX11_isWell 1 = .ok (.getfield 82, 3) := by decide +kernel
theorem dX11_isWell_4 : decode cX11_isWell 4 = .ok (.ifCond .ne 7, 3) := by decide +kernel
theorem dX11_isWell_7 : decode cX11_isWell 7 = .ok (.iconst 1, 1) := by decide +kernel
theorem dX11_isWell_8 : decode cX11_isWell 8 = .ok (.goto 4, 3) := by decide +kernel
theorem dX11_isWell_11 : decode cX11_isWell 11 = .ok (.iconst 0, 1) := by decide +kernel
theorem dX11_isWell_12 : decode cX11_isWell 12 = .ok (.ireturn, 1) := by decide +kernel
theorem dX11_faulty_0 : decode cX11_faulty 0 = .ok (.aload_n 0, 1) := by decide +kernel
theorem dX11_faulty_1 : decode cX11_faulty 1 = .ok (.invokevirtual 85, 3) := by decide +kernel
theorem dX11_faulty_4 : decode cX11_faulty 4 = .ok (.ifCond .eq 13, 3) := by decide +kernel
theorem dX11_faulty_7 : decode cX11_faulty 7 = .ok (.aload_n 0, 1) := by decide +kernel
theorem dX11_faulty_8 : decode cX11_faulty 8 = .ok (.iload_n 1, 1) := by decide +kernel
theorem dX11_faulty_9 : decode cX11_faulty 9 = .ok (.putfield 82, 3) := by decide +kernel
theorem dX11_faulty_12 : decode cX11_faulty 12 = .ok (.aload_n 0, 1) := by decide +kernel
theorem dX11_faulty_13 : decode cX11_faulty 13 = .ok (.iload_n 2, 1) := by decide +kernel
theorem dX11_faulty_14 : decode cX11_faulty 14 = .ok (.putfield 89, 3) := by decide +kernel
theorem dX11_faulty_17 : decode cX11_faulty 17 = .ok (.return_, 1) := by decide +kernel
theorem dX11_due_0 : decode cX11_due 0 = .ok (.aload_n 0, 1) := by decide +kernel
theorem dX11_due_1 : decode cX11_due 1 = .ok (.invokevirtual 85, 3) := by decide +kernel
theorem dX11_due_4 : decode cX11_due 4 = .ok (.ifCond .ne 5, 3) := by decide +kernel
theorem dX11_due_7 : decode cX11_due 7 = .ok (.iconst 0, 1) := by decide +kernel
theorem dX11_due_8 : decode cX11_due 8 = .ok (.ireturn, 1) := by decide +kernel
theorem dX11_due_9 : decode cX11_due 9 = .ok (.aload_n 0, 1) := by decide +kernel
theorem dX11_due_10 : decode cX11_due 10 = .ok (.invokevirtual 92, 3) := by decide +kernel
theorem dX11_due_13 : decode cX11_due 13 = .ok (.aload_n 0, 1) := by decide +kernel
theorem dX11_due_14 : decode cX11_due 14 = .ok (.aload_n 0, 1) := by decide +kernel
theorem dX11_due_15 : decode cX11_due 15 = .ok (.getfield 75, 3) := by decide +kernel
theorem dX11_due_18 : decode cX11_due 18 = .ok (.putfield 95, 3) := by decide +kernel
theorem dX11_due_21 : decode cX11_due 21 = .ok (.iconst 0, 1) := by decide +kernel
theorem dX11_due_22 : decode cX11_due 22 = .ok (.istore_n 3, 1) := by decide +kernel
theorem dX11_due_23 : decode cX11_due 23 = .ok (.aload_n 0, 1) := by decide +kernel
theorem dX11_due_24 : decode cX11_due 24 = .ok (.aload_n 0, 1) := by decide +kernel
theorem dX11_due_25 : decode cX11_due 25 = .ok (.getfield 75, 3) := by decide +kernel
theorem dX11_due_28 : decode cX11_due 28 = .ok (.invokevirtual 78, 3) := by decide +kernel
theorem dX11_due_31 : decode cX11_due 31 = .ok (.bipush 48, 2) := by decide +kernel
theorem dX11_due_33 : decode cX11_due 33 = .ok (.bipush 57, 2) := by decide +kernel
theorem dX11_due_35 : decode cX11_due 35 = .ok (.invokestatic 66, 3) := by decide +kernel
theorem dX11_due_38 : decode cX11_due 38 = .ok (.ifCond .eq 44, 3) := by decide +kernel
theorem dX11_due_41 : decode cX11_due 41 = .ok (.iload_n 3, 1) := by decide +kernel
theorem dX11_due_42 : decode cX11_due 42 = .ok (.sipush 9999, 3) := by decide +kernel
theorem dX11_due_45 : decode cX11_due 45 = .ok (.if_icmp .le 7, 3) := by decide +kernel
theorem dX11_due_48 : decode cX11_due 48 = .ok (.iload_n 3, 1) := by decide +kernel
theorem dX11_due_49 : decode cX11_due 49 = .ok (.goto 19, 3) := by decide +kernel
theorem dX11_due_52 : decode cX11_due 52 = .ok (.bipush 10, 2) := by decide +kernel
theorem dX11_due_54 : decode cX11_due 54 = .ok (.iload_n 3, 1) := by decide +kernel
theorem dX11_due_55 : decode cX11_due 55 = .ok (.imul, 1) := by decide +kernel
theorem dX11_due_56 : decode cX11_due 56 = .ok (.aload_n 0, 1) := by decide +kernel
theorem dX11_due_57 : decode cX11_due 57 = .ok (.aload_n 0, 1) := by decide +kernel
theorem dX11_due_58 : decode cX11_due 58 = .ok (.getfield 75, 3) := by decide +kernel
theorem dX11_due_61 : decode cX11_due 61 = .ok (.invokevirtual 78, 3) := by decide +kernel
theorem dX11_due_64 : decode cX11_due 64 = .ok (.iadd, 1) := by decide +kernel
theorem dX11_due_65 : decode cX11_due 65 = .ok (.bipush 48, 2) := by decide +kernel
theorem dX11_due_67 : decode cX11_due 67 = .ok (.isub, 1) := by decide +kernel
theorem dX11_due_68 : decode cX11_due 68 = .ok (.istore_n 3, 1) := by decide +kernel
theorem dX11_due_69 : decode cX11_due 69 = .ok (.aload_n 0, 1) := by decide +kernel
theorem dX11_due_70 : decode cX11_due 70 = .ok (.dup, 1) := by decide +kernel
theorem dX11_due_71 : decode cX11_due 71 = .ok (.getfield 75, 3) := by decide +kernel
theorem dX11_due_74 : decode cX11_due 74 = .ok (.iconst 1, 1) := by decide +kernel
theorem dX11_due_75 : decode cX11_due 75 = .ok (.iadd, 1) := by decide +kernel
theorem dX11_due_76 : decode cX11_due 76 = .ok (.putfield 75, 3) := by decide +kernel
theorem dX11_due_79 : decode cX11_due 79 = .ok (.goto (-56), 3) := by decide +kernel
theorem dX11_due_82 : decode cX11_due 82 = .ok (.aload_n 0, 1) := by decide +kernel
theorem dX11_due_83 : decode cX11_due 83 = .ok (.getfield 75, 3) := by decide +kernel
theorem dX11_due_86 : decode cX11_due 86 = .ok (.aload_n 0, 1) := by decide +kernel
theorem dX11_due_87 : decode cX11_due 87 = .ok (.getfield 95, 3) := by decide +kernel
theorem dX11_due_90 : decode cX11_due 90 = .ok (.if_icmp .ne 15, 3) := by decide +kernel
theorem dX11_due_93 : decode cX11_due 93 = .ok (.aload_n 0, 1) := by decide +kernel
theorem dX11_due_94 : decode cX11_due 94 = .ok (.iconst 1, 1) := by decide +kernel
theorem dX11_due_95 : decode cX11_due 95 = .ok (.aload_n 0, 1) := by decide +kernel
theorem dX11_due_96 : decode cX11_due 96 = .ok (.getfield 95, 3) := by decide +kernel
theorem dX11_due_99 : decode cX11_due 99 = .ok (.invokevirtual 98, 3) := by decide +kernel
theorem dX11_due_102 : decode cX11_due 102 = .ok (.goto 34, 3) := by decide +kernel
theorem dX11_due_105 : decode cX11_due 105 = .ok (.aload_n 0, 1) := by decide +kernel
theorem dX11_due_106 : decode cX11_due 106 = .ok (.getfield 75, 3) := by decide +kernel
theorem dX11_due_109 : decode cX11_due 109 = .ok (.aload_n 0, 1) := by decide +kernel
theorem dX11_due_110 : decode cX11_due 110 = .ok (.getfield 95, 3) := by decide +kernel
theorem dX11_due_113 : decode cX11_due 113 = .ok (.isub, 1) := by decide +kernel
theorem dX11_due_114 : decode cX11_due 114 = .ok (.iconst 3, 1) := by decide +kernel
theorem dX11_due_115 : decode cX11_due 115 = .ok (.if_icmp .gt 12, 3) := by decide +kernel
theorem dX11_due_118 : decode cX11_due 118 = .ok (.iload_n 3, 1) := by decide +kernel
theorem dX11_due_119 : decode cX11_due 119 = .ok (.iload_n 1, 1) := by decide +kernel
theorem dX11_due_120 : decode cX11_due 120 = .ok (.iload_n 2, 1) := by decide +kernel
theorem dX11_due_121 : decode cX11_due 121 = .ok (.invokestatic 66, 3) := by decide +kernel
theorem dX11_due_124 : decode cX11_due 124 = .ok (.ifCond .ne 12, 3) := by decide +kernel
theorem dX11_due_127 : decode cX11_due 127 = .ok (.aload_n 0, 1) := by decide +kernel
theorem dX11_due_128 : decode cX11_due 128 = .ok (.iconst 2, 1) := by decide +kernel
theorem dX11_due_129 : decode cX11_due 129 = .ok (.aload_n 0, 1) := by decide +kernel
theorem dX11_due_130 : decode cX11_due 130 = .ok (.getfield 95, 3) := by decide +kernel
theorem dX11_due_133 : decode cX11_due 133 = .ok (.invokevirtual 98, 3) := by decide +kernel
theorem dX11_due_136 : decode cX11_due 136 = .ok (.iload_n 3, 1) := by decide +kernel
theorem dX11_due_137 : decode cX11_due 137 = .ok (.ireturn, 1) := by decide +kernel
theorem dX11_ends_0 : decode cX11_ends 0 = .ok (.aload_n 0, 1) := by decide +kernel
theorem dX11_ends_1 : decode cX11_ends 1 = .ok (.invokevirtual 85, 3) := by decide +kernel
theorem dX11_ends_4 : decode cX11_ends 4 = .ok (.ifCond .eq 39, 3) := by decide +kernel
theorem dX11_ends_7 : decode cX11_ends 7 = .ok (.aload_n 0, 1) := by decide +kernel
theorem dX11_ends_8 : decode cX11_ends 8 = .ok (.invokevirtual 92, 3) := by decide +kernel
theorem dX11_ends_11 : decode cX11_ends 11 = .ok (.aload_n 0, 1) := by decide +kernel
theorem dX11_ends_12 : decode cX11_ends 12 = .ok (.aload_n 0, 1) := by decide +kernel
theorem dX11_ends_13 : decode cX11_ends 13 = .ok (.getfield 75, 3) := by decide +kernel
theorem dX11_ends_16 : decode cX11_ends 16 = .ok (.invokevirtual 78, 3) := by decide +kernel
theorem dX11_ends_19 : decode cX11_ends 19 = .ok (.bipush 59, 2) := by decide +kernel
theorem dX11_ends_21 : decode cX11_ends 21 = .ok (.if_icmp .eq 12, 3) := by decide +kernel
theorem dX11_ends_24 : decode cX11_ends 24 = .ok (.aload_n 0, 1) := by decide +kernel
theorem dX11_ends_25 : decode cX11_ends 25 = .ok (.iconst 1, 1) := by decide +kernel
theorem dX11_ends_26 : decode cX11_ends 26 = .ok (.aload_n 0, 1) := by decide +kernel
theorem dX11_ends_27 : decode cX11_ends 27 = .ok (.getfield 75, 3) := by decide +kernel
theorem dX11_ends_30 : decode cX11_ends 30 = .ok (.invokevirtual 98, 3) := by decide +kernel
theorem dX11_ends_33 : decode cX11_ends 33 = .ok (.aload_n 0, 1) := by decide +kernel
theorem dX11_ends_34 : decode cX11_ends 34 = .ok (.dup, 1) := by decide +kernel
theorem dX11_ends_35 : decode cX11_ends 35 = .ok (.getfield 75, 3) := by decide +kernel
theorem dX11_ends_38 : decode cX11_ends 38 = .ok (.iconst 1, 1) := by decide +kernel
theorem dX11_ends_39 : decode cX11_ends 39 = .ok (.iadd, 1) := by decide +kernel
theorem dX11_ends_40 : decode cX11_ends 40 = .ok (.putfield 75, 3) := by decide +kernel
theorem dX11_ends_43 : decode cX11_ends 43 = .ok (.return_, 1) := by decide +kernel
theorem dX11_bridges_0 : decode cX11_bridges 0 = .ok (.aload_n 0, 1) := by decide +kernel
theorem dX11_bridges_1 : decode cX11_bridges 1 = .ok (.getfield 13, 3) := by decide +kernel
theorem dX11_bridges_4 : decode cX11_bridges 4 = .ok (.iconst 1, 1) := by decide +kernel
theorem dX11_bridges_5 : decode cX11_bridges 5 = .ok (.iaload, 1) := by decide +kernel
theorem dX11_bridges_6 : decode cX11_bridges 6 = .ok (.istore_n 1, 1) := by decide +kernel
theorem dX11_bridges_7 : decode cX11_bridges 7 = .ok (.aload_n 0, 1) := by decide +kernel
theorem dX11_bridges_8 : decode cX11_bridges 8 = .ok (.iconst 0, 1) := by decide +kernel
theorem dX11_bridges_9 : decode cX11_bridges 9 = .ok (.aload_n 0, 1) := by decide +kernel
theorem dX11_bridges_10 : decode cX11_bridges 10 = .ok (.getfield 13, 3) := by decide +kernel
theorem dX11_bridges_13 : decode cX11_bridges 13 = .ok (.iconst 0, 1) := by decide +kernel
theorem dX11_bridges_14 : decode cX11_bridges 14 = .ok (.iaload, 1) := by decide +kernel
theorem dX11_bridges_15 : decode cX11_bridges 15 = .ok (.iconst 1, 1) := by decide +kernel
theorem dX11_bridges_16 : decode cX11_bridges 16 = .ok (.isub, 1) := by decide +kernel
theorem dX11_bridges_17 : decode cX11_bridges 17 = .ok (.invokevirtual 102, 3) := by decide +kernel
theorem dX11_bridges_20 : decode cX11_bridges 20 = .ok (.istore_n 2, 1) := by decide +kernel
theorem dX11_bridges_21 : decode cX11_bridges 21 = .ok (.aload_n 0, 1) := by decide +kernel
theorem dX11_bridges_22 : decode cX11_bridges 22 = .ok (.iconst 0, 1) := by decide +kernel
theorem dX11_bridges_23 : decode cX11_bridges 23 = .ok (.aload_n 0, 1) := by decide +kernel
theorem dX11_bridges_24 : decode cX11_bridges 24 = .ok (.getfield 13, 3) := by decide +kernel
theorem dX11_bridges_27 : decode cX11_bridges 27 = .ok (.iconst 0, 1) := by decide +kernel
theorem dX11_bridges_28 : decode cX11_bridges 28 = .ok (.iaload, 1) := by decide +kernel
theorem dX11_bridges_29 : decode cX11_bridges 29 = .ok (.iconst 1, 1) := by decide +kernel
theorem dX11_bridges_30 : decode cX11_bridges 30 = .ok (.isub, 1) := by decide +kernel
theorem dX11_bridges_31 : decode cX11_bridges 31 = .ok (.invokevirtual 102, 3) := by decide +kernel
theorem dX11_bridges_34 : decode cX11_bridges 34 = .ok (.istore_n 3, 1) := by decide +kernel
theorem dX11_bridges_35 : decode cX11_bridges 35 = .ok (.iload_n 2, 1) := by decide +kernel
theorem dX11_bridges_36 : decode cX11_bridges 36 = .ok (.iload_n 3, 1) := by decide +kernel
theorem dX11_bridges_37 : decode cX11_bridges 37 = .ok (.if_icmp .ne 7, 3) := by decide +kernel
theorem dX11_bridges_40 : decode cX11_bridges 40 = .ok (.iconst 1, 1) := by decide +kernel
theorem dX11_bridges_41 : decode cX11_bridges 41 = .ok (.goto 4, 3) := by decide +kernel
theorem dX11_bridges_44 : decode cX11_bridges 44 = .ok (.iconst 0, 1) := by decide +kernel
theorem dX11_bridges_45 : decode cX11_bridges 45 = .ok (.istore 4, 2) := by decide +kernel
theorem dX11_bridges_47 : decode cX11_bridges 47 = .ok (.iconst 0, 1) := by decide +kernel
theorem dX11_bridges_48 : decode cX11_bridges 48 = .ok (.istore 5, 2) := by decide +kernel
theorem dX11_bridges_50 : decode cX11_bridges 50 = .ok (.iload 5, 2) := by decide +kernel
theorem dX11_bridges_52 : decode cX11_bridges 52 = .ok (.iload_n 1, 1) := by decide +kernel
theorem dX11_bridges_53 : decode cX11_bridges 53 = .ok (.if_icmp .ge 75, 3) := by decide +kernel
theorem dX11_bridges_56 : decode cX11_bridges 56 = .ok (.iload 4, 2) := by decide +kernel
theorem dX11_bridges_58 : decode cX11_bridges 58 = .ok (.ifCond .ne 57, 3) := by decide +kernel
theorem dX11_bridges_61 : decode cX11_bridges 61 = .ok (.aload_n 0, 1) := by decide +kernel
theorem dX11_bridges_62 : decode cX11_bridges 62 = .ok (.getfield 13, 3) := by decide +kernel
theorem dX11_bridges_65 : decode cX11_bridges 65 = .ok (.iconst 4, 1) := by decide +kernel
theorem dX11_bridges_66 : decode cX11_bridges 66 = .ok (.iload 5, 2) := by decide +kernel
theorem dX11_bridges_68 : decode cX11_bridges 68 = .ok (.iadd, 1) := by decide +kernel
theorem dX11_bridges_69 : decode cX11_bridges 69 = .ok (.iaload, 1) := by decide +kernel
theorem dX11_bridges_70 : decode cX11_bridges 70 = .ok (.iload_n 2, 1) := by decide +kernel
theorem dX11_bridges_71 : decode cX11_bridges 71 = .ok (.if_icmp .ne 17, 3) := by decide +kernel
theorem dX11_bridges_74 : decode cX11_bridges 74 = .ok (.aload_n 0, 1) := by decide +kernel
theorem dX11_bridges_75 : decode cX11_bridges 75 = .ok (.getfield 13, 3) := by decide +kernel
theorem dX11_bridges_78 : decode cX11_bridges 78 = .ok (.bipush 13, 2) := by decide +kernel
theorem dX11_bridges_80 : decode cX11_bridges 80 = .ok (.iload 5, 2) := by decide +kernel
theorem dX11_bridges_82 : decode cX11_bridges 82 = .ok (.iadd, 1) := by decide +kernel
theorem dX11_bridges_83 : decode cX11_bridges 83 = .ok (.iaload, 1) := by decide +kernel
theorem dX11_bridges_84 : decode cX11_bridges 84 = .ok (.iload_n 3, 1) := by decide +kernel
theorem dX11_bridges_85 : decode cX11_bridges 85 = .ok (.if_icmp .eq 30, 3) := by decide +kernel
theorem dX11_bridges_88 : decode cX11_bridges 88 = .ok (.aload_n 0, 1) := by decide +kernel
theorem dX11_bridges_89 : decode cX11_bridges 89 = .ok (.getfield 13, 3) := by decide +kernel
theorem dX11_bridges_92 : decode cX11_bridges 92 = .ok (.iconst 4, 1) := by decide +kernel
theorem dX11_bridges_93 : decode cX11_bridges 93 = .ok (.iload 5, 2) := by decide +kernel
theorem dX11_bridges_95 : decode cX11_bridges 95 = .ok (.iadd, 1) := by decide +kernel
theorem dX11_bridges_96 : decode cX11_bridges 96 = .ok (.iaload, 1) := by decide +kernel
theorem dX11_bridges_97 : decode cX11_bridges 97 = .ok (.iload_n 3, 1) := by decide +kernel
theorem dX11_bridges_98 : decode cX11_bridges 98 = .ok (.if_icmp .ne 21, 3) := by decide +kernel
theorem dX11_bridges_101 : decode cX11_bridges 101 = .ok (.aload_n 0, 1) := by decide +kernel
theorem dX11_bridges_102 : decode cX11_bridges 102 = .ok (.getfield 13, 3) := by decide +kernel
theorem dX11_bridges_105 : decode cX11_bridges 105 = .ok (.bipush 13, 2) := by decide +kernel
theorem dX11_bridges_107 : decode cX11_bridges 107 = .ok (.iload 5, 2) := by decide +kernel
theorem dX11_bridges_109 : decode cX11_bridges 109 = .ok (.iadd, 1) := by decide +kernel
theorem dX11_bridges_110 : decode cX11_bridges 110 = .ok (.iaload, 1) := by decide +kernel
theorem dX11_bridges_111 : decode cX11_bridges 111 = .ok (.iload_n 2, 1) := by decide +kernel
theorem dX11_bridges_112 : decode cX11_bridges 112 = .ok (.if_icmp .ne 7, 3) := by decide +kernel
theorem dX11_bridges_115 : decode cX11_bridges 115 = .ok (.iconst 1, 1) := by decide +kernel
theorem dX11_bridges_116 : decode cX11_bridges 116 = .ok (.goto 4, 3) := by decide +kernel
theorem dX11_bridges_119 : decode cX11_bridges 119 = .ok (.iconst 0, 1) := by decide +kernel
theorem dX11_bridges_120 : decode cX11_bridges 120 = .ok (.istore 4, 2) := by decide +kernel
theorem dX11_bridges_122 : decode cX11_bridges 122 = .ok (.iinc 5 1, 3) := by decide +kernel
theorem dX11_bridges_125 : decode cX11_bridges 125 = .ok (.goto (-75), 3) := by decide +kernel
theorem dX11_bridges_128 : decode cX11_bridges 128 = .ok (.iload 4, 2) := by decide +kernel
theorem dX11_bridges_130 : decode cX11_bridges 130 = .ok (.ifCond .eq 12, 3) := by decide +kernel
theorem dX11_bridges_133 : decode cX11_bridges 133 = .ok (.aload_n 0, 1) := by decide +kernel
theorem dX11_bridges_134 : decode cX11_bridges 134 = .ok (.iconst 4, 1) := by decide +kernel
theorem dX11_bridges_135 : decode cX11_bridges 135 = .ok (.aload_n 0, 1) := by decide +kernel
theorem dX11_bridges_136 : decode cX11_bridges 136 = .ok (.getfield 95, 3) := by decide +kernel
theorem dX11_bridges_139 : decode cX11_bridges 139 = .ok (.invokevirtual 98, 3) := by decide +kernel
theorem dX11_bridges_142 : decode cX11_bridges 142 = .ok (.aload_n 0, 1) := by decide +kernel
theorem dX11_bridges_143 : decode cX11_bridges 143 = .ok (.getfield 13, 3) := by decide +kernel
theorem dX11_bridges_146 : decode cX11_bridges 146 = .ok (.iconst 4, 1) := by decide +kernel
theorem dX11_bridges_147 : decode cX11_bridges 147 = .ok (.iload_n 1, 1) := by decide +kernel
theorem dX11_bridges_148 : decode cX11_bridges 148 = .ok (.iadd, 1) := by decide +kernel
theorem dX11_bridges_149 : decode cX11_bridges 149 = .ok (.iload_n 2, 1) := by decide +kernel
theorem dX11_bridges_150 : decode cX11_bridges 150 = .ok (.iastore, 1) := by decide +kernel
theorem dX11_bridges_151 : decode cX11_bridges 151 = .ok (.aload_n 0, 1) := by decide +kernel
theorem dX11_bridges_152 : decode cX11_bridges 152 = .ok (.getfield 13, 3) := by decide +kernel
theorem dX11_bridges_155 : decode cX11_bridges 155 = .ok (.bipush 13, 2) := by decide +kernel
theorem dX11_bridges_157 : decode cX11_bridges 157 = .ok (.iload_n 1, 1) := by decide +kernel
theorem dX11_bridges_158 : decode cX11_bridges 158 = .ok (.iadd, 1) := by decide +kernel
theorem dX11_bridges_159 : decode cX11_bridges 159 = .ok (.iload_n 3, 1) := by decide +kernel
theorem dX11_bridges_160 : decode cX11_bridges 160 = .ok (.iastore, 1) := by decide +kernel
theorem dX11_bridges_161 : decode cX11_bridges 161 = .ok (.aload_n 0, 1) := by decide +kernel
theorem dX11_bridges_162 : decode cX11_bridges 162 = .ok (.getfield 13, 3) := by decide +kernel
theorem dX11_bridges_165 : decode cX11_bridges 165 = .ok (.bipush 22, 2) := by decide +kernel
theorem dX11_bridges_167 : decode cX11_bridges 167 = .ok (.iload_n 1, 1) := by decide +kernel
theorem dX11_bridges_168 : decode cX11_bridges 168 = .ok (.iadd, 1) := by decide +kernel
theorem dX11_bridges_169 : decode cX11_bridges 169 = .ok (.aload_n 0, 1) := by decide +kernel
theorem dX11_bridges_170 : decode cX11_bridges 170 = .ok (.iconst 2, 1) := by decide +kernel
theorem dX11_bridges_171 : decode cX11_bridges 171 = .ok (.bipush 40, 2) := by decide +kernel
theorem dX11_bridges_173 : decode cX11_bridges 173 = .ok (.invokevirtual 102, 3) := by decide +kernel
theorem dX11_bridges_176 : decode cX11_bridges 176 = .ok (.iastore, 1) := by decide +kernel
theorem dX11_bridges_177 : decode cX11_bridges 177 = .ok (.aload_n 0, 1) := by decide +kernel
theorem dX11_bridges_178 : decode cX11_bridges 178 = .ok (.getfield 13, 3) := by decide +kernel
theorem dX11_bridges_181 : decode cX11_bridges 181 = .ok (.bipush 31, 2) := by decide +kernel
theorem dX11_bridges_183 : decode cX11_bridges 183 = .ok (.iload_n 1, 1) := by decide +kernel
theorem dX11_bridges_184 : decode cX11_bridges 184 = .ok (.iadd, 1) := by decide +kernel
theorem dX11_bridges_185 : decode cX11_bridges 185 = .ok (.aload_n 0, 1) := by decide +kernel
theorem dX11_bridges_186 : decode cX11_bridges 186 = .ok (.iconst 0, 1) := by decide +kernel
theorem dX11_bridges_187 : decode cX11_bridges 187 = .ok (.bipush 99, 2) := by decide +kernel
theorem dX11_bridges_189 : decode cX11_bridges 189 = .ok (.invokevirtual 102, 3) := by decide +kernel
theorem dX11_bridges_192 : decode cX11_bridges 192 = .ok (.iastore, 1) := by decide +kernel
theorem dX11_bridges_193 : decode cX11_bridges 193 = .ok (.aload_n 0, 1) := by decide +kernel
theorem dX11_bridges_194 : decode cX11_bridges 194 = .ok (.getfield 13, 3) := by decide +kernel
theorem dX11_bridges_197 : decode cX11_bridges 197 = .ok (.iconst 1, 1) := by decide +kernel
theorem dX11_bridges_198 : decode cX11_bridges 198 = .ok (.dup2, 1) := by decide +kernel
theorem dX11_bridges_199 : decode cX11_bridges 199 = .ok (.iaload, 1) := by decide +kernel
theorem dX11_bridges_200 : decode cX11_bridges 200 = .ok (.iconst 1, 1) := by decide +kernel
theorem dX11_bridges_201 : decode cX11_bridges 201 = .ok (.iadd, 1) := by decide +kernel
theorem dX11_bridges_202 : decode cX11_bridges 202 = .ok (.iastore, 1) := by decide +kernel
theorem dX11_bridges_203 : decode cX11_bridges 203 = .ok (.return_, 1) := by decide +kernel
theorem dX11_tells_0 : decode cX11_tells 0 = .ok (.iload_n 1, 1) := by decide +kernel
theorem dX11_tells_1 : decode cX11_tells 1 = .ok (.bipush 110, 2) := by decide +kernel
theorem dX11_tells_3 : decode cX11_tells 3 = .ok (.if_icmp .ne 19, 3) := by decide +kernel
theorem dX11_tells_6 : decode cX11_tells 6 = .ok (.aload_n 0, 1) := by decide +kernel
theorem dX11_tells_7 : decode cX11_tells 7 = .ok (.getfield 13, 3) := by decide +kernel
theorem dX11_tells_10 : decode cX11_tells 10 = .ok (.iconst 0, 1) := by decide +kernel
theorem dX11_tells_11 : decode cX11_tells 11 = .ok (.aload_n 0, 1) := by decide +kernel
theorem dX11_tells_12 : decode cX11_tells 12 = .ok (.iconst 2, 1) := by decide +kernel
theorem dX11_tells_13 : decode cX11_tells 13 = .ok (.bipush 8, 2) := by decide +kernel
theorem dX11_tells_15 : decode cX11_tells 15 = .ok (.invokevirtual 102, 3) := by decide +kernel
theorem dX11_tells_18 : decode cX11_tells 18 = .ok (.iastore, 1) := by decide +kernel
theorem dX11_tells_19 : decode cX11_tells 19 = .ok (.goto 133, 3) := by decide +kernel
theorem dX11_tells_22 : decode cX11_tells 22 = .ok (.iload_n 1, 1) := by decide +kernel
theorem dX11_tells_23 : decode cX11_tells 23 = .ok (.bipush 98, 2) := by decide +kernel
theorem dX11_tells_25 : decode cX11_tells 25 = .ok (.if_icmp .ne 10, 3) := by decide +kernel
theorem dX11_tells_28 : decode cX11_tells 28 = .ok (.aload_n 0, 1) := by decide +kernel
theorem dX11_tells_29 : decode cX11_tells 29 = .ok (.invokevirtual 106, 3) := by decide +kernel
theorem dX11_tells_32 : decode cX11_tells 32 = .ok (.goto 120, 3) := by decide +kernel
theorem dX11_tells_35 : decode cX11_tells 35 = .ok (.iload_n 1, 1) := by decide +kernel
theorem dX11_tells_36 : decode cX11_tells 36 = .ok (.bipush 107, 2) := by decide +kernel
theorem dX11_tells_38 : decode cX11_tells 38 = .ok (.if_icmp .ne 57, 3) := by decide +kernel
theorem dX11_tells_41 : decode cX11_tells 41 = .ok (.aload_n 0, 1) := by decide +kernel
theorem dX11_tells_42 : decode cX11_tells 42 = .ok (.getfield 13, 3) := by decide +kernel
theorem dX11_tells_45 : decode cX11_tells 45 = .ok (.bipush 40, 2) := by decide +kernel
theorem dX11_tells_47 : decode cX11_tells 47 = .ok (.aload_n 0, 1) := by decide +kernel
theorem dX11_tells_48 : decode cX11_tells 48 = .ok (.getfield 13, 3) := by decide +kernel
theorem dX11_tells_51 : decode cX11_tells 51 = .ok (.iconst 2, 1) := by decide +kernel
theorem dX11_tells_52 : decode cX11_tells 52 = .ok (.iaload, 1) := by decide +kernel
theorem dX11_tells_53 : decode cX11_tells 53 = .ok (.iadd, 1) := by decide +kernel
theorem dX11_tells_54 : decode cX11_tells 54 = .ok (.aload_n 0, 1) := by decide +kernel
theorem dX11_tells_55 : decode cX11_tells 55 = .ok (.iconst 0, 1) := by decide +kernel
theorem dX11_tells_56 : decode cX11_tells 56 = .ok (.iconst 3, 1) := by decide +kernel
theorem dX11_tells_57 : decode cX11_tells 57 = .ok (.invokevirtual 102, 3) := by decide +kernel
theorem dX11_tells_60 : decode cX11_tells 60 = .ok (.iastore, 1) := by decide +kernel
theorem dX11_tells_61 : decode cX11_tells 61 = .ok (.aload_n 0, 1) := by decide +kernel
theorem dX11_tells_62 : decode cX11_tells 62 = .ok (.getfield 13, 3) := by decide +kernel
theorem dX11_tells_65 : decode cX11_tells 65 = .ok (.bipush 49, 2) := by decide +kernel
theorem dX11_tells_67 : decode cX11_tells 67 = .ok (.aload_n 0, 1) := by decide +kernel
theorem dX11_tells_68 : decode cX11_tells 68 = .ok (.getfield 13, 3) := by decide +kernel
theorem dX11_tells_71 : decode cX11_tells 71 = .ok (.iconst 2, 1) := by decide +kernel
theorem dX11_tells_72 : decode cX11_tells 72 = .ok (.iaload, 1) := by decide +kernel
theorem dX11_tells_73 : decode cX11_tells 73 = .ok (.iadd, 1) := by decide +kernel
theorem dX11_tells_74 : decode cX11_tells 74 = .ok (.aload_n 0, 1) := by decide +kernel
theorem dX11_tells_75 : decode cX11_tells 75 = .ok (.iconst 1, 1) := by decide +kernel
theorem dX11_tells_76 : decode cX11_tells 76 = .ok (.bipush 40, 2) := by decide +kernel
theorem dX11_tells_78 : decode cX11_tells 78 = .ok (.invokevirtual 102, 3) := by decide +kernel
theorem dX11_tells_81 : decode cX11_tells 81 = .ok (.iastore, 1) := by decide +kernel
theorem dX11_tells_82 : decode cX11_tells 82 = .ok (.aload_n 0, 1) := by decide +kernel
theorem dX11_tells_83 : decode cX11_tells 83 = .ok (.getfield 13, 3) := by decide +kernel
theorem dX11_tells_86 : decode cX11_tells 86 = .ok (.iconst 2, 1) := by decide +kernel
theorem dX11_tells_87 : decode cX11_tells 87 = .ok (.dup2, 1) := by decide +kernel
theorem dX11_tells_88 : decode cX11_tells 88 = .ok (.iaload, 1) := by decide +kernel
theorem dX11_tells_89 : decode cX11_tells 89 = .ok (.iconst 1, 1) := by decide +kernel
theorem dX11_tells_90 : decode cX11_tells 90 = .ok (.iadd, 1) := by decide +kernel
theorem dX11_tells_91 : decode cX11_tells 91 = .ok (.iastore, 1) := by decide +kernel
theorem dX11_tells_92 : decode cX11_tells 92 = .ok (.goto 60, 3) := by decide +kernel
theorem dX11_tells_95 : decode cX11_tells 95 = .ok (.aload_n 0, 1) := by decide +kernel
theorem dX11_tells_96 : decode cX11_tells 96 = .ok (.getfield 13, 3) := by decide +kernel
theorem dX11_tells_99 : decode cX11_tells 99 = .ok (.bipush 58, 2) := by decide +kernel
theorem dX11_tells_101 : decode cX11_tells 101 = .ok (.aload_n 0, 1) := by decide +kernel
theorem dX11_tells_102 : decode cX11_tells 102 = .ok (.getfield 13, 3) := by decide +kernel
theorem dX11_tells_105 : decode cX11_tells 105 = .ok (.iconst 3, 1) := by decide +kernel
theorem dX11_tells_106 : decode cX11_tells 106 = .ok (.iaload, 1) := by decide +kernel
theorem dX11_tells_107 : decode cX11_tells 107 = .ok (.iadd, 1) := by decide +kernel
theorem dX11_tells_108 : decode cX11_tells 108 = .ok (.aload_n 0, 1) := by decide +kernel
theorem dX11_tells_109 : decode cX11_tells 109 = .ok (.iconst 0, 1) := by decide +kernel
theorem dX11_tells_110 : decode cX11_tells 110 = .ok (.iconst 3, 1) := by decide +kernel
theorem dX11_tells_111 : decode cX11_tells 111 = .ok (.invokevirtual 102, 3) := by decide +kernel
theorem dX11_tells_114 : decode cX11_tells 114 = .ok (.iastore, 1) := by decide +kernel
theorem dX11_tells_115 : decode cX11_tells 115 = .ok (.aload_n 0, 1) := by decide +kernel
theorem dX11_tells_116 : decode cX11_tells 116 = .ok (.getfield 13, 3) := by decide +kernel
theorem dX11_tells_119 : decode cX11_tells 119 = .ok (.bipush 64, 2) := by decide +kernel
theorem dX11_tells_121 : decode cX11_tells 121 = .ok (.aload_n 0, 1) := by decide +kernel
theorem dX11_tells_122 : decode cX11_tells 122 = .ok (.getfield 13, 3) := by decide +kernel
theorem dX11_tells_125 : decode cX11_tells 125 = .ok (.iconst 3, 1) := by decide +kernel
theorem dX11_tells_126 : decode cX11_tells 126 = .ok (.iaload, 1) := by decide +kernel
theorem dX11_tells_127 : decode cX11_tells 127 = .ok (.iadd, 1) := by decide +kernel
theorem dX11_tells_128 : decode cX11_tells 128 = .ok (.aload_n 0, 1) := by decide +kernel
theorem dX11_tells_129 : decode cX11_tells 129 = .ok (.iconst 0, 1) := by decide +kernel
theorem dX11_tells_130 : decode cX11_tells 130 = .ok (.aload_n 0, 1) := by decide +kernel
theorem dX11_tells_131 : decode cX11_tells 131 = .ok (.getfield 13, 3) := by decide +kernel
theorem dX11_tells_134 : decode cX11_tells 134 = .ok (.iconst 0, 1) := by decide +kernel
theorem dX11_tells_135 : decode cX11_tells 135 = .ok (.iaload, 1) := by decide +kernel
theorem dX11_tells_136 : decode cX11_tells 136 = .ok (.iconst 1, 1) := by decide +kernel
theorem dX11_tells_137 : decode cX11_tells 137 = .ok (.isub, 1) := by decide +kernel
theorem dX11_tells_138 : decode cX11_tells 138 = .ok (.invokevirtual 102, 3) := by decide +kernel
theorem dX11_tells_141 : decode cX11_tells 141 = .ok (.iastore, 1) := by decide +kernel
theorem dX11_tells_142 : decode cX11_tells 142 = .ok (.aload_n 0, 1) := by decide +kernel
theorem dX11_tells_143 : decode cX11_tells 143 = .ok (.getfield 13, 3) := by decide +kernel
theorem dX11_tells_146 : decode cX11_tells 146 = .ok (.iconst 3, 1) := by decide +kernel
theorem dX11_tells_147 : decode cX11_tells 147 = .ok (.dup2, 1) := by decide +kernel
theorem dX11_tells_148 : decode cX11_tells 148 = .ok (.iaload, 1) := by decide +kernel
theorem dX11_tells_149 : decode cX11_tells 149 = .ok (.iconst 1, 1) := by decide +kernel
theorem dX11_tells_150 : decode cX11_tells 150 = .ok (.iadd, 1) := by decide +kernel
theorem dX11_tells_151 : decode cX11_tells 151 = .ok (.iastore, 1) := by decide +kernel
theorem dX11_tells_152 : decode cX11_tells 152 = .ok (.return_, 1) := by decide +kernel
theorem dX11_isMore_0 : decode cX11_isMore 0 = .ok (.iload_n 1, 1) := by decide +kernel
theorem dX11_isMore_1 : decode cX11_isMore 1 = .ok (.bipush 110, 2) := by decide +kernel
theorem dX11_isMore_3 : decode cX11_isMore 3 = .ok (.if_icmp .ne 12, 3) := by decide +kernel
theorem dX11_isMore_6 : decode cX11_isMore 6 = .ok (.aload_n 0, 1) := by decide +kernel
theorem dX11_isMore_7 : decode cX11_isMore 7 = .ok (.getfield 13, 3) := by decide +kernel
theorem dX11_isMore_10 : decode cX11_isMore 10 = .ok (.iconst 0, 1) := by decide +kernel
theorem dX11_isMore_11 : decode cX11_isMore 11 = .ok (.iaload, 1) := by decide +kernel
theorem dX11_isMore_12 : decode cX11_isMore 12 = .ok (.ifCond .gt 20, 3) := by decide +kernel
theorem dX11_isMore_15 : decode cX11_isMore 15 = .ok (.iload_n 1, 1) := by decide +kernel
theorem dX11_isMore_16 : decode cX11_isMore 16 = .ok (.bipush 98, 2) := by decide +kernel
theorem dX11_isMore_18 : decode cX11_isMore 18 = .ok (.if_icmp .ne 18, 3) := by decide +kernel
theorem dX11_isMore_21 : decode cX11_isMore 21 = .ok (.aload_n 0, 1) := by decide +kernel
theorem dX11_isMore_22 : decode cX11_isMore 22 = .ok (.getfield 13, 3) := by decide +kernel
theorem dX11_isMore_25 : decode cX11_isMore 25 = .ok (.iconst 1, 1) := by decide +kernel
theorem dX11_isMore_26 : decode cX11_isMore 26 = .ok (.iaload, 1) := by decide +kernel
theorem dX11_isMore_27 : decode cX11_isMore 27 = .ok (.bipush 9, 2) := by decide +kernel
theorem dX11_isMore_29 : decode cX11_isMore 29 = .ok (.if_icmp .ne 7, 3) := by decide +kernel
theorem dX11_isMore_32 : decode cX11_isMore 32 = .ok (.iconst 1, 1) := by decide +kernel
theorem dX11_isMore_33 : decode cX11_isMore 33 = .ok (.goto 4, 3) := by decide +kernel
theorem dX11_isMore_36 : decode cX11_isMore 36 = .ok (.iconst 0, 1) := by decide +kernel
theorem dX11_isMore_37 : decode cX11_isMore 37 = .ok (.istore_n 2, 1) := by decide +kernel
theorem dX11_isMore_38 : decode cX11_isMore 38 = .ok (.iload_n 2, 1) := by decide +kernel
theorem dX11_isMore_39 : decode cX11_isMore 39 = .ok (.ifCond .ne 37, 3) := by decide +kernel
theorem dX11_isMore_42 : decode cX11_isMore 42 = .ok (.iload_n 1, 1) := by decide +kernel
theorem dX11_isMore_43 : decode cX11_isMore 43 = .ok (.bipush 107, 2) := by decide +kernel
theorem dX11_isMore_45 : decode cX11_isMore 45 = .ok (.if_icmp .ne 14, 3) := by decide +kernel
theorem dX11_isMore_48 : decode cX11_isMore 48 = .ok (.aload_n 0, 1) := by decide +kernel
theorem dX11_isMore_49 : decode cX11_isMore 49 = .ok (.getfield 13, 3) := by decide +kernel
theorem dX11_isMore_52 : decode cX11_isMore 52 = .ok (.iconst 2, 1) := by decide +kernel
theorem dX11_isMore_53 : decode cX11_isMore 53 = .ok (.iaload, 1) := by decide +kernel
theorem dX11_isMore_54 : decode cX11_isMore 54 = .ok (.bipush 9, 2) := by decide +kernel
theorem dX11_isMore_56 : decode cX11_isMore 56 = .ok (.if_icmp .eq 20, 3) := by decide +kernel
theorem dX11_isMore_59 : decode cX11_isMore 59 = .ok (.iload_n 1, 1) := by decide +kernel
theorem dX11_isMore_60 : decode cX11_isMore 60 = .ok (.bipush 106, 2) := by decide +kernel
theorem dX11_isMore_62 : decode cX11_isMore 62 = .ok (.if_icmp .ne 18, 3) := by decide +kernel
theorem dX11_isMore_65 : decode cX11_isMore 65 = .ok (.aload_n 0, 1) := by decide +kernel
theorem dX11_isMore_66 : decode cX11_isMore 66 = .ok (.getfield 13, 3) := by decide +kernel
theorem dX11_isMore_69 : decode cX11_isMore 69 = .ok (.iconst 3, 1) := by decide +kernel
theorem dX11_isMore_70 : decode cX11_isMore 70 = .ok (.iaload, 1) := by decide +kernel
theorem dX11_isMore_71 : decode cX11_isMore 71 = .ok (.bipush 6, 2) := by decide +kernel
theorem dX11_isMore_73 : decode cX11_isMore 73 = .ok (.if_icmp .ne 7, 3) := by decide +kernel
theorem dX11_isMore_76 : decode cX11_isMore 76 = .ok (.iconst 1, 1) := by decide +kernel
theorem dX11_isMore_77 : decode cX11_isMore 77 = .ok (.goto 4, 3) := by decide +kernel
theorem dX11_isMore_80 : decode cX11_isMore 80 = .ok (.iconst 0, 1) := by decide +kernel
theorem dX11_isMore_81 : decode cX11_isMore 81 = .ok (.ireturn, 1) := by decide +kernel
theorem dX11_reads_0 : decode cX11_reads 0 = .ok (.aload_n 0, 1) := by decide +kernel
theorem dX11_reads_1 : decode cX11_reads 1 = .ok (.invokevirtual 92, 3) := by decide +kernel
theorem dX11_reads_4 : decode cX11_reads 4 = .ok (.aload_n 0, 1) := by decide +kernel
theorem dX11_reads_5 : decode cX11_reads 5 = .ok (.invokevirtual 85, 3) := by decide +kernel
theorem dX11_reads_8 : decode cX11_reads 8 = .ok (.ifCond .eq 124, 3) := by decide +kernel
theorem dX11_reads_11 : decode cX11_reads 11 = .ok (.aload_n 0, 1) := by decide +kernel
theorem dX11_reads_12 : decode cX11_reads 12 = .ok (.getfield 75, 3) := by decide +kernel
theorem dX11_reads_15 : decode cX11_reads 15 = .ok (.aload_n 0, 1) := by decide +kernel
theorem dX11_reads_16 : decode cX11_reads 16 = .ok (.getfield 71, 3) := by decide +kernel
theorem dX11_reads_19 : decode cX11_reads 19 = .ok (.if_icmp .ge 113, 3) := by decide +kernel
theorem dX11_reads_22 : decode cX11_reads 22 = .ok (.aload_n 0, 1) := by decide +kernel
theorem dX11_reads_23 : decode cX11_reads 23 = .ok (.aload_n 0, 1) := by decide +kernel
theorem dX11_reads_24 : decode cX11_reads 24 = .ok (.getfield 75, 3) := by decide +kernel
theorem dX11_reads_27 : decode cX11_reads 27 = .ok (.invokevirtual 78, 3) := by decide +kernel
theorem dX11_reads_30 : decode cX11_reads 30 = .ok (.istore_n 1, 1) := by decide +kernel
theorem dX11_reads_31 : decode cX11_reads 31 = .ok (.iload_n 1, 1) := by decide +kernel
theorem dX11_reads_32 : decode cX11_reads 32 = .ok (.bipush 110, 2) := by decide +kernel
theorem dX11_reads_34 : decode cX11_reads 34 = .ok (.if_icmp .eq 30, 3) := by decide +kernel
theorem dX11_reads_37 : decode cX11_reads 37 = .ok (.aload_n 0, 1) := by decide +kernel
theorem dX11_reads_38 : decode cX11_reads 38 = .ok (.getfield 13, 3) := by decide +kernel
theorem dX11_reads_41 : decode cX11_reads 41 = .ok (.iconst 0, 1) := by decide +kernel
theorem dX11_reads_42 : decode cX11_reads 42 = .ok (.iaload, 1) := by decide +kernel
theorem dX11_reads_43 : decode cX11_reads 43 = .ok (.ifCond .le 25, 3) := by decide +kernel
theorem dX11_reads_46 : decode cX11_reads 46 = .ok (.iload_n 1, 1) := by decide +kernel
theorem dX11_reads_47 : decode cX11_reads 47 = .ok (.bipush 98, 2) := by decide +kernel
theorem dX11_reads_49 : decode cX11_reads 49 = .ok (.if_icmp .eq 15, 3) := by decide +kernel
theorem dX11_reads_52 : decode cX11_reads 52 = .ok (.iload_n 1, 1) := by decide +kernel
theorem dX11_reads_53 : decode cX11_reads 53 = .ok (.bipush 107, 2) := by decide +kernel
theorem dX11_reads_55 : decode cX11_reads 55 = .ok (.if_icmp .eq 9, 3) := by decide +kernel
theorem dX11_reads_58 : decode cX11_reads 58 = .ok (.iload_n 1, 1) := by decide +kernel
theorem dX11_reads_59 : decode cX11_reads 59 = .ok (.bipush 106, 2) := by decide +kernel
theorem dX11_reads_61 : decode cX11_reads 61 = .ok (.if_icmp .ne 7, 3) := by decide +kernel
theorem dX11_reads_64 : decode cX11_reads 64 = .ok (.iconst 1, 1) := by decide +kernel
theorem dX11_reads_65 : decode cX11_reads 65 = .ok (.goto 4, 3) := by decide +kernel
theorem dX11_reads_68 : decode cX11_reads 68 = .ok (.iconst 0, 1) := by decide +kernel
theorem dX11_reads_69 : decode cX11_reads 69 = .ok (.istore_n 2, 1) := by decide +kernel
theorem dX11_reads_70 : decode cX11_reads 70 = .ok (.iload_n 2, 1) := by decide +kernel
theorem dX11_reads_71 : decode cX11_reads 71 = .ok (.ifCond .ne 15, 3) := by decide +kernel
theorem dX11_reads_74 : decode cX11_reads 74 = .ok (.aload_n 0, 1) := by decide +kernel
theorem dX11_reads_75 : decode cX11_reads 75 = .ok (.iconst 1, 1) := by decide +kernel
theorem dX11_reads_76 : decode cX11_reads 76 = .ok (.aload_n 0, 1) := by decide +kernel
theorem dX11_reads_77 : decode cX11_reads 77 = .ok (.getfield 75, 3) := by decide +kernel
theorem dX11_reads_80 : decode cX11_reads 80 = .ok (.invokevirtual 98, 3) := by decide +kernel
theorem dX11_reads_83 : decode cX11_reads 83 = .ok (.goto 46, 3) := by decide +kernel
theorem dX11_reads_86 : decode cX11_reads 86 = .ok (.aload_n 0, 1) := by decide +kernel
theorem dX11_reads_87 : decode cX11_reads 87 = .ok (.iload_n 1, 1) := by decide +kernel
theorem dX11_reads_88 : decode cX11_reads 88 = .ok (.invokevirtual 109, 3) := by decide +kernel
theorem dX11_reads_91 : decode cX11_reads 91 = .ok (.ifCond .eq 15, 3) := by decide +kernel
theorem dX11_reads_94 : decode cX11_reads 94 = .ok (.aload_n 0, 1) := by decide +kernel
theorem dX11_reads_95 : decode cX11_reads 95 = .ok (.iconst 3, 1) := by decide +kernel
theorem dX11_reads_96 : decode cX11_reads 96 = .ok (.aload_n 0, 1) := by decide +kernel
theorem dX11_reads_97 : decode cX11_reads 97 = .ok (.getfield 75, 3) := by decide +kernel
theorem dX11_reads_100 : decode cX11_reads 100 = .ok (.invokevirtual 98, 3) := by decide +kernel
theorem dX11_reads_103 : decode cX11_reads 103 = .ok (.goto 26, 3) := by decide +kernel
theorem dX11_reads_106 : decode cX11_reads 106 = .ok (.aload_n 0, 1) := by decide +kernel
theorem dX11_reads_107 : decode cX11_reads 107 = .ok (.dup, 1) := by decide +kernel
theorem dX11_reads_108 : decode cX11_reads 108 = .ok (.getfield 75, 3) := by decide +kernel
theorem dX11_reads_111 : decode cX11_reads 111 = .ok (.iconst 1, 1) := by decide +kernel
theorem dX11_reads_112 : decode cX11_reads 112 = .ok (.iadd, 1) := by decide +kernel
theorem dX11_reads_113 : decode cX11_reads 113 = .ok (.putfield 75, 3) := by decide +kernel
theorem dX11_reads_116 : decode cX11_reads 116 = .ok (.aload_n 0, 1) := by decide +kernel
theorem dX11_reads_117 : decode cX11_reads 117 = .ok (.iload_n 1, 1) := by decide +kernel
theorem dX11_reads_118 : decode cX11_reads 118 = .ok (.invokevirtual 113, 3) := by decide +kernel
theorem dX11_reads_121 : decode cX11_reads 121 = .ok (.aload_n 0, 1) := by decide +kernel
theorem dX11_reads_122 : decode cX11_reads 122 = .ok (.invokevirtual 117, 3) := by decide +kernel
theorem dX11_reads_125 : decode cX11_reads 125 = .ok (.aload_n 0, 1) := by decide +kernel
theorem dX11_reads_126 : decode cX11_reads 126 = .ok (.invokevirtual 92, 3) := by decide +kernel
theorem dX11_reads_129 : decode cX11_reads 129 = .ok (.goto (-125), 3) := by decide +kernel
theorem dX11_reads_132 : decode cX11_reads 132 = .ok (.return_, 1) := by decide +kernel
theorem dX11_town_0 : decode cX11_town 0 = .ok (.aload_n 0, 1) := by decide +kernel
theorem dX11_town_1 : decode cX11_town 1 = .ok (.iconst 0, 1) := by decide +kernel
theorem dX11_town_2 : decode cX11_town 2 = .ok (.putfield 63, 3) := by decide +kernel
theorem dX11_town_5 : decode cX11_town 5 = .ok (.aload_n 0, 1) := by decide +kernel
theorem dX11_town_6 : decode cX11_town 6 = .ok (.iconst 0, 1) := by decide +kernel
theorem dX11_town_7 : decode cX11_town 7 = .ok (.putfield 75, 3) := by decide +kernel
theorem dX11_town_10 : decode cX11_town 10 = .ok (.aload_n 0, 1) := by decide +kernel
theorem dX11_town_11 : decode cX11_town 11 = .ok (.iconst 0, 1) := by decide +kernel
theorem dX11_town_12 : decode cX11_town 12 = .ok (.putfield 82, 3) := by decide +kernel
theorem dX11_town_15 : decode cX11_town 15 = .ok (.iconst 0, 1) := by decide +kernel
theorem dX11_town_16 : decode cX11_town 16 = .ok (.istore_n 1, 1) := by decide +kernel
theorem dX11_town_17 : decode cX11_town 17 = .ok (.iload_n 1, 1) := by decide +kernel
theorem dX11_town_18 : decode cX11_town 18 = .ok (.bipush 70, 2) := by decide +kernel
theorem dX11_town_20 : decode cX11_town 20 = .ok (.if_icmp .ge 16, 3) := by decide +kernel
theorem dX11_town_23 : decode cX11_town 23 = .ok (.aload_n 0, 1) := by decide +kernel
theorem dX11_town_24 : decode cX11_town 24 = .ok (.getfield 13, 3) := by decide +kernel
theorem dX11_town_27 : decode cX11_town 27 = .ok (.iload_n 1, 1) := by decide +kernel
theorem dX11_town_28 : decode cX11_town 28 = .ok (.iconst 0, 1) := by decide +kernel
theorem dX11_town_29 : decode cX11_town 29 = .ok (.iastore, 1) := by decide +kernel
theorem dX11_town_30 : decode cX11_town 30 = .ok (.iinc 1 1, 3) := by decide +kernel
theorem dX11_town_33 : decode cX11_town 33 = .ok (.goto (-16), 3) := by decide +kernel
theorem dX11_town_36 : decode cX11_town 36 = .ok (.aload_n 0, 1) := by decide +kernel
theorem dX11_town_37 : decode cX11_town 37 = .ok (.invokevirtual 120, 3) := by decide +kernel
theorem dX11_town_40 : decode cX11_town 40 = .ok (.aload_n 0, 1) := by decide +kernel
theorem dX11_town_41 : decode cX11_town 41 = .ok (.iconst 0, 1) := by decide +kernel
theorem dX11_town_42 : decode cX11_town 42 = .ok (.putfield 71, 3) := by decide +kernel
theorem dX11_town_45 : decode cX11_town 45 = .ok (.aload_n 0, 1) := by decide +kernel
theorem dX11_town_46 : decode cX11_town 46 = .ok (.aload_n 0, 1) := by decide +kernel
theorem dX11_town_47 : decode cX11_town 47 = .ok (.invokevirtual 85, 3) := by decide +kernel
theorem dX11_town_50 : decode cX11_town 50 = .ok (.ifCond .eq 7, 3) := by decide +kernel
theorem dX11_town_53 : decode cX11_town 53 = .ok (.iconst (-1), 1) := by decide +kernel
theorem dX11_town_54 : decode cX11_town 54 = .ok (.goto 7, 3) := by decide +kernel
theorem dX11_town_57 : decode cX11_town 57 = .ok (.aload_n 0, 1) := by decide +kernel
theorem dX11_town_58 : decode cX11_town 58 = .ok (.getfield 89, 3) := by decide +kernel
theorem dX11_town_61 : decode cX11_town 61 = .ok (.putfield 59, 3) := by decide +kernel
theorem dX11_town_64 : decode cX11_town 64 = .ok (.aload_n 0, 1) := by decide +kernel
theorem dX11_town_65 : decode cX11_town 65 = .ok (.invokevirtual 85, 3) := by decide +kernel
theorem dX11_town_68 : decode cX11_town 68 = .ok (.ifCond .ne 11, 3) := by decide +kernel
theorem dX11_town_71 : decode cX11_town 71 = .ok (.bipush (-10), 2) := by decide +kernel
theorem dX11_town_73 : decode cX11_town 73 = .ok (.aload_n 0, 1) := by decide +kernel
theorem dX11_town_74 : decode cX11_town 74 = .ok (.getfield 82, 3) := by decide +kernel
theorem dX11_town_77 : decode cX11_town 77 = .ok (.isub, 1) := by decide +kernel
theorem dX11_town_78 : decode cX11_town 78 = .ok (.ireturn, 1) := by decide +kernel
theorem dX11_town_79 : decode cX11_town 79 = .ok (.aload_n 0, 1) := by decide +kernel
theorem dX11_town_80 : decode cX11_town 80 = .ok (.invokevirtual 123, 3) := by decide +kernel
theorem dX11_town_83 : decode cX11_town 83 = .ok (.aload_n 0, 1) := by decide +kernel
theorem dX11_town_84 : decode cX11_town 84 = .ok (.getfield 16, 3) := by decide +kernel
theorem dX11_town_87 : decode cX11_town 87 = .ok (.iconst 1, 1) := by decide +kernel
theorem dX11_town_88 : decode cX11_town 88 = .ok (.iaload, 1) := by decide +kernel
theorem dX11_town_89 : decode cX11_town 89 = .ok (.ireturn, 1) := by decide +kernel
theorem dX11_settles_0 : decode cX11_settles 0 = .ok (.iconst 0, 1) := by decide +kernel
theorem dX11_settles_1 : decode cX11_settles 1 = .ok (.istore_n 1, 1) := by decide +kernel
theorem dX11_settles_2 : decode cX11_settles 2 = .ok (.iload_n 1, 1) := by decide +kernel
theorem dX11_settles_3 : decode cX11_settles 3 = .ok (.bipush 70, 2) := by decide +kernel
theorem dX11_settles_5 : decode cX11_settles 5 = .ok (.if_icmp .ge 21, 3) := by decide +kernel
theorem dX11_settles_8 : decode cX11_settles 8 = .ok (.aload_n 0, 1) := by decide +kernel
theorem dX11_settles_9 : decode cX11_settles 9 = .ok (.getfield 16, 3) := by decide +kernel
theorem dX11_settles_12 : decode cX11_settles 12 = .ok (.iload_n 1, 1) := by decide +kernel
theorem dX11_settles_13 : decode cX11_settles 13 = .ok (.aload_n 0, 1) := by decide +kernel
theorem dX11_settles_14 : decode cX11_settles 14 = .ok (.getfield 13, 3) := by decide +kernel
theorem dX11_settles_17 : decode cX11_settles 17 = .ok (.iload_n 1, 1) := by decide +kernel
theorem dX11_settles_18 : decode cX11_settles 18 = .ok (.iaload, 1) := by decide +kernel
theorem dX11_settles_19 : decode cX11_settles 19 = .ok (.iastore, 1) := by decide +kernel
theorem dX11_settles_20 : decode cX11_settles 20 = .ok (.iinc 1 1, 3) := by decide +kernel
theorem dX11_settles_23 : decode cX11_settles 23 = .ok (.goto (-21), 3) := by decide +kernel
theorem dX11_settles_26 : decode cX11_settles 26 = .ok (.iconst 0, 1) := by decide +kernel
theorem dX11_settles_27 : decode cX11_settles 27 = .ok (.istore_n 1, 1) := by decide +kernel
theorem dX11_settles_28 : decode cX11_settles 28 = .ok (.iload_n 1, 1) := by decide +kernel
theorem dX11_settles_29 : decode cX11_settles 29 = .ok (.sipush 133, 3) := by decide +kernel
theorem dX11_settles_32 : decode cX11_settles 32 = .ok (.if_icmp .ge 16, 3) := by decide +kernel
theorem dX11_settles_35 : decode cX11_settles 35 = .ok (.aload_n 0, 1) := by decide +kernel
theorem dX11_settles_36 : decode cX11_settles 36 = .ok (.getfield 19, 3) := by decide +kernel
theorem dX11_settles_39 : decode cX11_settles 39 = .ok (.iload_n 1, 1) := by decide +kernel
theorem dX11_settles_40 : decode cX11_settles 40 = .ok (.iconst 0, 1) := by decide +kernel
theorem dX11_settles_41 : decode cX11_settles 41 = .ok (.iastore, 1) := by decide +kernel
theorem dX11_settles_42 : decode cX11_settles 42 = .ok (.iinc 1 1, 3) := by decide +kernel
theorem dX11_settles_45 : decode cX11_settles 45 = .ok (.goto (-17), 3) := by decide +kernel
theorem dX11_settles_48 : decode cX11_settles 48 = .ok (.iconst 0, 1) := by decide +kernel
theorem dX11_settles_49 : decode cX11_settles 49 = .ok (.istore_n 1, 1) := by decide +kernel
theorem dX11_settles_50 : decode cX11_settles 50 = .ok (.iload_n 1, 1) := by decide +kernel
theorem dX11_settles_51 : decode cX11_settles 51 = .ok (.bipush 6, 2) := by decide +kernel
theorem dX11_settles_53 : decode cX11_settles 53 = .ok (.if_icmp .ge 26, 3) := by decide +kernel
theorem dX11_settles_56 : decode cX11_settles 56 = .ok (.aload_n 0, 1) := by decide +kernel
theorem dX11_settles_57 : decode cX11_settles 57 = .ok (.getfield 19, 3) := by decide +kernel
theorem dX11_settles_60 : decode cX11_settles 60 = .ok (.iconst 0, 1) := by decide +kernel
theorem dX11_settles_61 : decode cX11_settles 61 = .ok (.iload_n 1, 1) := by decide +kernel
theorem dX11_settles_62 : decode cX11_settles 62 = .ok (.iadd, 1) := by decide +kernel
theorem dX11_settles_63 : decode cX11_settles 63 = .ok (.aload_n 0, 1) := by decide +kernel
theorem dX11_settles_64 : decode cX11_settles 64 = .ok (.getfield 16, 3) := by decide +kernel
theorem dX11_settles_67 : decode cX11_settles 67 = .ok (.bipush 64, 2) := by decide +kernel
theorem dX11_settles_69 : decode cX11_settles 69 = .ok (.iload_n 1, 1) := by decide +kernel
theorem dX11_settles_70 : decode cX11_settles 70 = .ok (.iadd, 1) := by decide +kernel
theorem dX11_settles_71 : decode cX11_settles 71 = .ok (.iaload, 1) := by decide +kernel
theorem dX11_settles_72 : decode cX11_settles 72 = .ok (.iastore, 1) := by decide +kernel
theorem dX11_settles_73 : decode cX11_settles 73 = .ok (.iinc 1 1, 3) := by decide +kernel
theorem dX11_settles_76 : decode cX11_settles 76 = .ok (.goto (-26), 3) := by decide +kernel
theorem dX11_settles_79 : decode cX11_settles 79 = .ok (.iconst 0, 1) := by decide +kernel
theorem dX11_settles_80 : decode cX11_settles 80 = .ok (.istore_n 1, 1) := by decide +kernel
theorem dX11_settles_81 : decode cX11_settles 81 = .ok (.iload_n 1, 1) := by decide +kernel
theorem dX11_settles_82 : decode cX11_settles 82 = .ok (.bipush 9, 2) := by decide +kernel
theorem dX11_settles_84 : decode cX11_settles 84 = .ok (.if_icmp .ge 61, 3) := by decide +kernel
theorem dX11_settles_87 : decode cX11_settles 87 = .ok (.aload_n 0, 1) := by decide +kernel
theorem dX11_settles_88 : decode cX11_settles 88 = .ok (.getfield 19, 3) := by decide +kernel
theorem dX11_settles_91 : decode cX11_settles 91 = .ok (.bipush 42, 2) := by decide +kernel
theorem dX11_settles_93 : decode cX11_settles 93 = .ok (.iload_n 1, 1) := by decide +kernel
theorem dX11_settles_94 : decode cX11_settles 94 = .ok (.iadd, 1) := by decide +kernel
theorem dX11_settles_95 : decode cX11_settles 95 = .ok (.aload_n 0, 1) := by decide +kernel
theorem dX11_settles_96 : decode cX11_settles 96 = .ok (.getfield 16, 3) := by decide +kernel
theorem dX11_settles_99 : decode cX11_settles 99 = .ok (.bipush 49, 2) := by decide +kernel
theorem dX11_settles_101 : decode cX11_settles 101 = .ok (.iload_n 1, 1) := by decide +kernel
theorem dX11_settles_102 : decode cX11_settles 102 = .ok (.iadd, 1) := by decide +kernel
theorem dX11_settles_103 : decode cX11_settles 103 = .ok (.iaload, 1) := by decide +kernel
theorem dX11_settles_104 : decode cX11_settles 104 = .ok (.iastore, 1) := by decide +kernel
theorem dX11_settles_105 : decode cX11_settles 105 = .ok (.aload_n 0, 1) := by decide +kernel
theorem dX11_settles_106 : decode cX11_settles 106 = .ok (.getfield 19, 3) := by decide +kernel
theorem dX11_settles_109 : decode cX11_settles 109 = .ok (.bipush 24, 2) := by decide +kernel
theorem dX11_settles_111 : decode cX11_settles 111 = .ok (.iload_n 1, 1) := by decide +kernel
theorem dX11_settles_112 : decode cX11_settles 112 = .ok (.iadd, 1) := by decide +kernel
theorem dX11_settles_113 : decode cX11_settles 113 = .ok (.iload_n 1, 1) := by decide +kernel
theorem dX11_settles_114 : decode cX11_settles 114 = .ok (.aload_n 0, 1) := by decide +kernel
theorem dX11_settles_115 : decode cX11_settles 115 = .ok (.getfield 16, 3) := by decide +kernel
theorem dX11_settles_118 : decode cX11_settles 118 = .ok (.iconst 2, 1) := by decide +kernel
theorem dX11_settles_119 : decode cX11_settles 119 = .ok (.iaload, 1) := by decide +kernel
theorem dX11_settles_120 : decode cX11_settles 120 = .ok (.if_icmp .ge 17, 3) := by decide +kernel
theorem dX11_settles_123 : decode cX11_settles 123 = .ok (.iload_n 1, 1) := by decide +kernel
theorem dX11_settles_124 : decode cX11_settles 124 = .ok (.aload_n 0, 1) := by decide +kernel
theorem dX11_settles_125 : decode cX11_settles 125 = .ok (.getfield 16, 3) := by decide +kernel
theorem dX11_settles_128 : decode cX11_settles 128 = .ok (.iconst 1, 1) := by decide +kernel
theorem dX11_settles_129 : decode cX11_settles 129 = .ok (.iaload, 1) := by decide +kernel
theorem dX11_settles_130 : decode cX11_settles 130 = .ok (.if_icmp .ge 7, 3) := by decide +kernel
theorem dX11_settles_133 : decode cX11_settles 133 = .ok (.iload_n 1, 1) := by decide +kernel
theorem dX11_settles_134 : decode cX11_settles 134 = .ok (.goto 4, 3) := by decide +kernel
theorem dX11_settles_137 : decode cX11_settles 137 = .ok (.iconst (-1), 1) := by decide +kernel
theorem dX11_settles_138 : decode cX11_settles 138 = .ok (.iastore, 1) := by decide +kernel
theorem dX11_settles_139 : decode cX11_settles 139 = .ok (.iinc 1 1, 3) := by decide +kernel
theorem dX11_settles_142 : decode cX11_settles 142 = .ok (.goto (-61), 3) := by decide +kernel
theorem dX11_settles_145 : decode cX11_settles 145 = .ok (.aload_n 0, 1) := by decide +kernel
theorem dX11_settles_146 : decode cX11_settles 146 = .ok (.iconst 0, 1) := by decide +kernel
theorem dX11_settles_147 : decode cX11_settles 147 = .ok (.putfield 126, 3) := by decide +kernel
theorem dX11_settles_150 : decode cX11_settles 150 = .ok (.aload_n 0, 1) := by decide +kernel
theorem dX11_settles_151 : decode cX11_settles 151 = .ok (.iconst 0, 1) := by decide +kernel
theorem dX11_settles_152 : decode cX11_settles 152 = .ok (.putfield 129, 3) := by decide +kernel
theorem dX11_settles_155 : decode cX11_settles 155 = .ok (.aload_n 0, 1) := by decide +kernel
theorem dX11_settles_156 : decode cX11_settles 156 = .ok (.iconst 0, 1) := by decide +kernel
theorem dX11_settles_157 : decode cX11_settles 157 = .ok (.putfield 132, 3) := by decide +kernel
theorem dX11_settles_160 : decode cX11_settles 160 = .ok (.aload_n 0, 1) := by decide +kernel
theorem dX11_settles_161 : decode cX11_settles 161 = .ok (.getfield 25, 3) := by decide +kernel
theorem dX11_settles_164 : decode cX11_settles 164 = .ok (.iconst 0, 1) := by decide +kernel
theorem dX11_settles_165 : decode cX11_settles 165 = .ok (.iconst 0, 1) := by decide +kernel
theorem dX11_settles_166 : decode cX11_settles 166 = .ok (.bastore, 1) := by decide +kernel
theorem dX11_settles_167 : decode cX11_settles 167 = .ok (.aload_n 0, 1) := by decide +kernel
theorem dX11_settles_168 : decode cX11_settles 168 = .ok (.getfield 25, 3) := by decide +kernel
theorem dX11_settles_171 : decode cX11_settles 171 = .ok (.iconst 1, 1) := by decide +kernel
theorem dX11_settles_172 : decode cX11_settles 172 = .ok (.iconst 0, 1) := by decide +kernel
theorem dX11_settles_173 : decode cX11_settles 173 = .ok (.bastore, 1) := by decide +kernel
theorem dX11_settles_174 : decode cX11_settles 174 = .ok (.return_, 1) := by decide +kernel
theorem dX11_fault_0 : decode cX11_fault 0 = .ok (.aload_n 0, 1) := by decide +kernel
theorem dX11_fault_1 : decode cX11_fault 1 = .ok (.iconst 0, 1) := by decide +kernel
theorem dX11_fault_2 : decode cX11_fault 2 = .ok (.putfield 63, 3) := by decide +kernel
theorem dX11_fault_5 : decode cX11_fault 5 = .ok (.aload_n 0, 1) := by decide +kernel
theorem dX11_fault_6 : decode cX11_fault 6 = .ok (.getfield 59, 3) := by decide +kernel
theorem dX11_fault_9 : decode cX11_fault 9 = .ok (.ireturn, 1) := by decide +kernel
theorem dX11_isPlace_0 : decode cX11_isPlace 0 = .ok (.iload_n 1, 1) := by decide +kernel
theorem dX11_isPlace_1 : decode cX11_isPlace 1 = .ok (.iconst 0, 1) := by decide +kernel
theorem dX11_isPlace_2 : decode cX11_isPlace 2 = .ok (.aload_n 0, 1) := by decide +kernel
theorem dX11_isPlace_3 : decode cX11_isPlace 3 = .ok (.getfield 16, 3) := by decide +kernel
theorem dX11_isPlace_6 : decode cX11_isPlace 6 = .ok (.iconst 0, 1) := by decide +kernel
theorem dX11_isPlace_7 : decode cX11_isPlace 7 = .ok (.iaload, 1) := by decide +kernel
theorem dX11_isPlace_8 : decode cX11_isPlace 8 = .ok (.iconst 1, 1) := by decide +kernel
theorem dX11_isPlace_9 : decode cX11_isPlace 9 = .ok (.isub, 1) := by decide +kernel
theorem dX11_isPlace_10 : decode cX11_isPlace 10 = .ok (.invokestatic 66, 3) := by decide +kernel
theorem dX11_isPlace_13 : decode cX11_isPlace 13 = .ok (.ireturn, 1) := by decide +kernel
theorem dX11_isBridge_0 : decode cX11_isBridge 0 = .ok (.iload_n 1, 1) := by decide +kernel
theorem dX11_isBridge_1 : decode cX11_isBridge 1 = .ok (.iconst 0, 1) := by decide +kernel
theorem dX11_isBridge_2 : decode cX11_isBridge 2 = .ok (.aload_n 0, 1) := by decide +kernel
theorem dX11_isBridge_3 : decode cX11_isBridge 3 = .ok (.getfield 16, 3) := by decide +kernel
theorem dX11_isBridge_6 : decode cX11_isBridge 6 = .ok (.iconst 1, 1) := by decide +kernel
theorem dX11_isBridge_7 : decode cX11_isBridge 7 = .ok (.iaload, 1) := by decide +kernel
theorem dX11_isBridge_8 : decode cX11_isBridge 8 = .ok (.iconst 1, 1) := by decide +kernel
theorem dX11_isBridge_9 : decode cX11_isBridge 9 = .ok (.isub, 1) := by decide +kernel
theorem dX11_isBridge_10 : decode cX11_isBridge 10 = .ok (.invokestatic 66, 3) := by decide +kernel
theorem dX11_isBridge_13 : decode cX11_isBridge 13 = .ok (.ireturn, 1) := by decide +kernel
theorem dX11_isKeeper_0 : decode cX11_isKeeper 0 = .ok (.iload_n 1, 1) := by decide +kernel
theorem dX11_isKeeper_1 : decode cX11_isKeeper 1 = .ok (.iconst 0, 1) := by decide +kernel
theorem dX11_isKeeper_2 : decode cX11_isKeeper 2 = .ok (.aload_n 0, 1) := by decide +kernel
theorem dX11_isKeeper_3 : decode cX11_isKeeper 3 = .ok (.getfield 16, 3) := by decide +kernel
theorem dX11_isKeeper_6 : decode cX11_isKeeper 6 = .ok (.iconst 2, 1) := by decide +kernel
theorem dX11_isKeeper_7 : decode cX11_isKeeper 7 = .ok (.iaload, 1) := by decide +kernel
theorem dX11_isKeeper_8 : decode cX11_isKeeper 8 = .ok (.iconst 1, 1) := by decide +kernel
theorem dX11_isKeeper_9 : decode cX11_isKeeper 9 = .ok (.isub, 1) := by decide +kernel
theorem dX11_isKeeper_10 : decode cX11_isKeeper 10 = .ok (.invokestatic 66, 3) := by decide +kernel
theorem dX11_isKeeper_13 : decode cX11_isKeeper 13 = .ok (.ireturn, 1) := by decide +kernel
theorem dX11_isJumper_0 : decode cX11_isJumper 0 = .ok (.iload_n 1, 1) := by decide +kernel
theorem dX11_isJumper_1 : decode cX11_isJumper 1 = .ok (.iconst 0, 1) := by decide +kernel
theorem dX11_isJumper_2 : decode cX11_isJumper 2 = .ok (.aload_n 0, 1) := by decide +kernel
theorem dX11_isJumper_3 : decode cX11_isJumper 3 = .ok (.getfield 16, 3) := by decide +kernel
theorem dX11_isJumper_6 : decode cX11_isJumper 6 = .ok (.iconst 3, 1) := by decide +kernel
theorem dX11_isJumper_7 : decode cX11_isJumper 7 = .ok (.iaload, 1) := by decide +kernel
theorem dX11_isJumper_8 : decode cX11_isJumper 8 = .ok (.iconst 1, 1) := by decide +kernel
theorem dX11_isJumper_9 : decode cX11_isJumper 9 = .ok (.isub, 1) := by decide +kernel
theorem dX11_isJumper_10 : decode cX11_isJumper 10 = .ok (.invokestatic 66, 3) := by decide +kernel
theorem dX11_isJumper_13 : decode cX11_isJumper 13 = .ok (.ireturn, 1) := by decide +kernel
theorem dX11_keeperAt_0 : decode cX11_keeperAt 0 = .ok (.iconst (-1), 1) := by decide +kernel
theorem dX11_keeperAt_1 : decode cX11_keeperAt 1 = .ok (.istore_n 2, 1) := by decide +kernel
theorem dX11_keeperAt_2 : decode cX11_keeperAt 2 = .ok (.iconst 0, 1) := by decide +kernel
theorem dX11_keeperAt_3 : decode cX11_keeperAt 3 = .ok (.istore_n 3, 1) := by decide +kernel
theorem dX11_keeperAt_4 : decode cX11_keeperAt 4 = .ok (.iload_n 3, 1) := by decide +kernel
theorem dX11_keeperAt_5 : decode cX11_keeperAt 5 = .ok (.aload_n 0, 1) := by decide +kernel
theorem dX11_keeperAt_6 : decode cX11_keeperAt 6 = .ok (.getfield 16, 3) := by decide +kernel
theorem dX11_keeperAt_9 : decode cX11_keeperAt 9 = .ok (.iconst 2, 1) := by decide +kernel
theorem dX11_keeperAt_10 : decode cX11_keeperAt 10 = .ok (.iaload, 1) := by decide +kernel
theorem dX11_keeperAt_11 : decode cX11_keeperAt 11 = .ok (.if_icmp .ge 28, 3) := by decide +kernel
theorem dX11_keeperAt_14 : decode cX11_keeperAt 14 = .ok (.aload_n 0, 1) := by decide +kernel
theorem dX11_keeperAt_15 : decode cX11_keeperAt 15 = .ok (.getfield 19, 3) := by decide +kernel
theorem dX11_keeperAt_18 : decode cX11_keeperAt 18 = .ok (.bipush 24, 2) := by decide +kernel
theorem dX11_keeperAt_20 : decode cX11_keeperAt 20 = .ok (.iload_n 3, 1) := by decide +kernel
theorem dX11_keeperAt_21 : decode cX11_keeperAt 21 = .ok (.iadd, 1) := by decide +kernel
theorem dX11_keeperAt_22 : decode cX11_keeperAt 22 = .ok (.iaload, 1) := by decide +kernel
theorem dX11_keeperAt_23 : decode cX11_keeperAt 23 = .ok (.iload_n 1, 1) := by decide +kernel
theorem dX11_keeperAt_24 : decode cX11_keeperAt 24 = .ok (.if_icmp .ne 7, 3) := by decide +kernel
theorem dX11_keeperAt_27 : decode cX11_keeperAt 27 = .ok (.iload_n 3, 1) := by decide +kernel
theorem dX11_keeperAt_28 : decode cX11_keeperAt 28 = .ok (.goto 4, 3) := by decide +kernel
theorem dX11_keeperAt_31 : decode cX11_keeperAt 31 = .ok (.iload_n 2, 1) := by decide +kernel
theorem dX11_keeperAt_32 : decode cX11_keeperAt 32 = .ok (.istore_n 2, 1) := by decide +kernel
theorem dX11_keeperAt_33 : decode cX11_keeperAt 33 = .ok (.iinc 3 1, 3) := by decide +kernel
theorem dX11_keeperAt_36 : decode cX11_keeperAt 36 = .ok (.goto (-32), 3) := by decide +kernel
theorem dX11_keeperAt_39 : decode cX11_keeperAt 39 = .ok (.iload_n 2, 1) := by decide +kernel
theorem dX11_keeperAt_40 : decode cX11_keeperAt 40 = .ok (.ireturn, 1) := by decide +kernel
theorem dX11_timeBy_0 : decode cX11_timeBy 0 = .ok (.aload_n 0, 1) := by decide +kernel
theorem dX11_timeBy_1 : decode cX11_timeBy 1 = .ok (.getfield 16, 3) := by decide +kernel
theorem dX11_timeBy_4 : decode cX11_timeBy 4 = .ok (.bipush 40, 2) := by decide +kernel
theorem dX11_timeBy_6 : decode cX11_timeBy 6 = .ok (.iload_n 1, 1) := by decide +kernel
theorem dX11_timeBy_7 : decode cX11_timeBy 7 = .ok (.iadd, 1) := by decide +kernel
theorem dX11_timeBy_8 : decode cX11_timeBy 8 = .ok (.iaload, 1) := by decide +kernel
theorem dX11_timeBy_9 : decode cX11_timeBy 9 = .ok (.istore_n 3, 1) := by decide +kernel
theorem dX11_timeBy_10 : decode cX11_timeBy 10 = .ok (.iload_n 3, 1) := by decide +kernel
theorem dX11_timeBy_11 : decode cX11_timeBy 11 = .ok (.iconst 1, 1) := by decide +kernel
theorem dX11_timeBy_12 : decode cX11_timeBy 12 = .ok (.if_icmp .ne 17, 3) := by decide +kernel
theorem dX11_timeBy_15 : decode cX11_timeBy 15 = .ok (.aload_n 0, 1) := by decide +kernel
theorem dX11_timeBy_16 : decode cX11_timeBy 16 = .ok (.getfield 19, 3) := by decide +kernel
theorem dX11_timeBy_19 : decode cX11_timeBy 19 = .ok (.bipush 51, 2) := by decide +kernel
theorem dX11_timeBy_21 : decode cX11_timeBy 21 = .ok (.iaload, 1) := by decide +kernel
theorem dX11_timeBy_22 : decode cX11_timeBy 22 = .ok (.iconst 2, 1) := by decide +kernel
theorem dX11_timeBy_23 : decode cX11_timeBy 23 = .ok (.irem, 1) := by decide +kernel
theorem dX11_timeBy_24 : decode cX11_timeBy 24 = .ok (.iconst 2, 1) := by decide +kernel
theorem dX11_timeBy_25 : decode cX11_timeBy 25 = .ok (.imul, 1) := by decide +kernel
theorem dX11_timeBy_26 : decode cX11_timeBy 26 = .ok (.goto 24, 3) := by decide +kernel
theorem dX11_timeBy_29 : decode cX11_timeBy 29 = .ok (.iload_n 3, 1) := by decide +kernel
theorem dX11_timeBy_30 : decode cX11_timeBy 30 = .ok (.iconst 2, 1) := by decide +kernel
theorem dX11_timeBy_31 : decode cX11_timeBy 31 = .ok (.if_icmp .ne 7, 3) := by decide +kernel
theorem dX11_timeBy_34 : decode cX11_timeBy 34 = .ok (.iload_n 2, 1) := by decide +kernel
theorem dX11_timeBy_35 : decode cX11_timeBy 35 = .ok (.goto 15, 3) := by decide +kernel
theorem dX11_timeBy_38 : decode cX11_timeBy 38 = .ok (.iload_n 3, 1) := by decide +kernel
theorem dX11_timeBy_39 : decode cX11_timeBy 39 = .ok (.iconst 3, 1) := by decide +kernel
theorem dX11_timeBy_40 : decode cX11_timeBy 40 = .ok (.if_icmp .ne 9, 3) := by decide +kernel
theorem dX11_timeBy_43 : decode cX11_timeBy 43 = .ok (.iload_n 2, 1) := by decide +kernel
theorem dX11_timeBy_44 : decode cX11_timeBy 44 = .ok (.iconst 3, 1) := by decide +kernel
theorem dX11_timeBy_45 : decode cX11_timeBy 45 = .ok (.idiv, 1) := by decide +kernel
theorem dX11_timeBy_46 : decode cX11_timeBy 46 = .ok (.goto 4, 3) := by decide +kernel
theorem dX11_timeBy_49 : decode cX11_timeBy 49 = .ok (.iconst 0, 1) := by decide +kernel
theorem dX11_timeBy_50 : decode cX11_timeBy 50 = .ok (.istore 4, 2) := by decide +kernel
theorem dX11_timeBy_52 : decode cX11_timeBy 52 = .ok (.aload_n 0, 1) := by decide +kernel
theorem dX11_timeBy_53 : decode cX11_timeBy 53 = .ok (.getfield 19, 3) := by decide +kernel
theorem dX11_timeBy_56 : decode cX11_timeBy 56 = .ok (.bipush 42, 2) := by decide +kernel
theorem dX11_timeBy_58 : decode cX11_timeBy 58 = .ok (.iload_n 1, 1) := by decide +kernel
theorem dX11_timeBy_59 : decode cX11_timeBy 59 = .ok (.iadd, 1) := by decide +kernel
theorem dX11_timeBy_60 : decode cX11_timeBy 60 = .ok (.iaload, 1) := by decide +kernel
theorem dX11_timeBy_61 : decode cX11_timeBy 61 = .ok (.iload 4, 2) := by decide +kernel
theorem dX11_timeBy_63 : decode cX11_timeBy 63 = .ok (.iadd, 1) := by decide +kernel
theorem dX11_timeBy_64 : decode cX11_timeBy 64 = .ok (.ireturn, 1) := by decide +kernel
theorem dX11_timeOf_0 : decode cX11_timeOf 0 = .ok (.aload_n 0, 1) := by decide +kernel
theorem dX11_timeOf_1 : decode cX11_timeOf 1 = .ok (.iload_n 1, 1) := by decide +kernel
theorem dX11_timeOf_2 : decode cX11_timeOf 2 = .ok (.aload_n 0, 1) := by decide +kernel
theorem dX11_timeOf_3 : decode cX11_timeOf 3 = .ok (.getfield 19, 3) := by decide +kernel
theorem dX11_timeOf_6 : decode cX11_timeOf 6 = .ok (.bipush 33, 2) := by decide +kernel
theorem dX11_timeOf_8 : decode cX11_timeOf 8 = .ok (.iload_n 1, 1) := by decide +kernel
theorem dX11_timeOf_9 : decode cX11_timeOf 9 = .ok (.iadd, 1) := by decide +kernel
theorem dX11_timeOf_10 : decode cX11_timeOf 10 = .ok (.iaload, 1) := by decide +kernel
theorem dX11_timeOf_11 : decode cX11_timeOf 11 = .ok (.invokevirtual 135, 3) := by decide +kernel
theorem dX11_timeOf_14 : decode cX11_timeOf 14 = .ok (.ireturn, 1) := by decide +kernel
theorem dX11_flightOf_0 : decode cX11_flightOf 0 = .ok (.aload_n 0, 1) := by decide +kernel
theorem dX11_flightOf_1 : decode cX11_flightOf 1 = .ok (.getfield 16, 3) := by decide +kernel
theorem dX11_flightOf_4 : decode cX11_flightOf 4 = .ok (.bipush 58, 2) := by decide +kernel
theorem dX11_flightOf_6 : decode cX11_flightOf 6 = .ok (.iload_n 1, 1) := by decide +kernel
theorem dX11_flightOf_7 : decode cX11_flightOf 7 = .ok (.iadd, 1) := by decide +kernel
theorem dX11_flightOf_8 : decode cX11_flightOf 8 = .ok (.iaload, 1) := by decide +kernel
theorem dX11_flightOf_9 : decode cX11_flightOf 9 = .ok (.istore_n 3, 1) := by decide +kernel
theorem dX11_flightOf_10 : decode cX11_flightOf 10 = .ok (.aload_n 0, 1) := by decide +kernel
theorem dX11_flightOf_11 : decode cX11_flightOf 11 = .ok (.getfield 16, 3) := by decide +kernel
theorem dX11_flightOf_14 : decode cX11_flightOf 14 = .ok (.bipush 22, 2) := by decide +kernel
theorem dX11_flightOf_16 : decode cX11_flightOf 16 = .ok (.iload_n 2, 1) := by decide +kernel
theorem dX11_flightOf_17 : decode cX11_flightOf 17 = .ok (.iadd, 1) := by decide +kernel
theorem dX11_flightOf_18 : decode cX11_flightOf 18 = .ok (.iaload, 1) := by decide +kernel
theorem dX11_flightOf_19 : decode cX11_flightOf 19 = .ok (.istore 4, 2) := by decide +kernel
theorem dX11_flightOf_21 : decode cX11_flightOf 21 = .ok (.aload_n 0, 1) := by decide +kernel
theorem dX11_flightOf_22 : decode cX11_flightOf 22 = .ok (.getfield 19, 3) := by decide +kernel
theorem dX11_flightOf_25 : decode cX11_flightOf 25 = .ok (.bipush 6, 2) := by decide +kernel
theorem dX11_flightOf_27 : decode cX11_flightOf 27 = .ok (.iload_n 1, 1) := by decide +kernel
theorem dX11_flightOf_28 : decode cX11_flightOf 28 = .ok (.iadd, 1) := by decide +kernel
theorem dX11_flightOf_29 : decode cX11_flightOf 29 = .ok (.iaload, 1) := by decide +kernel
theorem dX11_flightOf_30 : decode cX11_flightOf 30 = .ok (.istore 5, 2) := by decide +kernel
theorem dX11_flightOf_32 : decode cX11_flightOf 32 = .ok (.iload_n 3, 1) := by decide +kernel
theorem dX11_flightOf_33 : decode cX11_flightOf 33 = .ok (.ifCond .ne 8, 3) := by decide +kernel
theorem dX11_flightOf_36 : decode cX11_flightOf 36 = .ok (.iload 4, 2) := by decide +kernel
theorem dX11_flightOf_38 : decode cX11_flightOf 38 = .ok (.goto 45, 3) := by decide +kernel
theorem dX11_flightOf_41 : decode cX11_flightOf 41 = .ok (.iload_n 3, 1) := by decide +kernel
theorem dX11_flightOf_42 : decode cX11_flightOf 42 = .ok (.iconst 1, 1) := by decide +kernel
theorem dX11_flightOf_43 : decode cX11_flightOf 43 = .ok (.if_icmp .ne 11, 3) := by decide +kernel
theorem dX11_flightOf_46 : decode cX11_flightOf 46 = .ok (.iload 4, 2) := by decide +kernel
theorem dX11_flightOf_48 : decode cX11_flightOf 48 = .ok (.iload 5, 2) := by decide +kernel
theorem dX11_flightOf_50 : decode cX11_flightOf 50 = .ok (.isub, 1) := by decide +kernel
theorem dX11_flightOf_51 : decode cX11_flightOf 51 = .ok (.goto 32, 3) := by decide +kernel
theorem dX11_flightOf_54 : decode cX11_flightOf 54 = .ok (.iload_n 3, 1) := by decide +kernel
theorem dX11_flightOf_55 : decode cX11_flightOf 55 = .ok (.iconst 2, 1) := by decide +kernel
theorem dX11_flightOf_56 : decode cX11_flightOf 56 = .ok (.if_icmp .ne 23, 3) := by decide +kernel
theorem dX11_flightOf_59 : decode cX11_flightOf 59 = .ok (.iload 4, 2) := by decide +kernel
theorem dX11_flightOf_61 : decode cX11_flightOf 61 = .ok (.iload 5, 2) := by decide +kernel
theorem dX11_flightOf_63 : decode cX11_flightOf 63 = .ok (.iconst 2, 1) := by decide +kernel
theorem dX11_flightOf_64 : decode cX11_flightOf 64 = .ok (.idiv, 1) := by decide +kernel
theorem dX11_flightOf_65 : decode cX11_flightOf 65 = .ok (.isub, 1) := by decide +kernel
theorem dX11_flightOf_66 : decode cX11_flightOf 66 = .ok (.aload_n 0, 1) := by decide +kernel
theorem dX11_flightOf_67 : decode cX11_flightOf 67 = .ok (.getfield 19, 3) := by decide +kernel
theorem dX11_flightOf_70 : decode cX11_flightOf 70 = .ok (.bipush 51, 2) := by decide +kernel
theorem dX11_flightOf_72 : decode cX11_flightOf 72 = .ok (.iaload, 1) := by decide +kernel
theorem dX11_flightOf_73 : decode cX11_flightOf 73 = .ok (.iconst 2, 1) := by decide +kernel
theorem dX11_flightOf_74 : decode cX11_flightOf 74 = .ok (.irem, 1) := by decide +kernel
theorem dX11_flightOf_75 : decode cX11_flightOf 75 = .ok (.isub, 1) := by decide +kernel
theorem dX11_flightOf_76 : decode cX11_flightOf 76 = .ok (.goto 7, 3) := by decide +kernel
theorem dX11_flightOf_79 : decode cX11_flightOf 79 = .ok (.iload 4, 2) := by decide +kernel
theorem dX11_flightOf_81 : decode cX11_flightOf 81 = .ok (.iconst 2, 1) := by decide +kernel
theorem dX11_flightOf_82 : decode cX11_flightOf 82 = .ok (.idiv, 1) := by decide +kernel
theorem dX11_flightOf_83 : decode cX11_flightOf 83 = .ok (.istore 6, 2) := by decide +kernel
theorem dX11_flightOf_85 : decode cX11_flightOf 85 = .ok (.iload 6, 2) := by decide +kernel
theorem dX11_flightOf_87 : decode cX11_flightOf 87 = .ok (.ifCond .ge 7, 3) := by decide +kernel
theorem dX11_flightOf_90 : decode cX11_flightOf 90 = .ok (.iconst 0, 1) := by decide +kernel
theorem dX11_flightOf_91 : decode cX11_flightOf 91 = .ok (.goto 5, 3) := by decide +kernel
theorem dX11_flightOf_94 : decode cX11_flightOf 94 = .ok (.iload 6, 2) := by decide +kernel
theorem dX11_flightOf_96 : decode cX11_flightOf 96 = .ok (.ireturn, 1) := by decide +kernel
theorem dX11_comes_0 : decode cX11_comes 0 = .ok (.aload_n 0, 1) := by decide +kernel
theorem dX11_comes_1 : decode cX11_comes 1 = .ok (.iload_n 2, 1) := by decide +kernel
theorem dX11_comes_2 : decode cX11_comes 2 = .ok (.invokevirtual 138, 3) := by decide +kernel
theorem dX11_comes_5 : decode cX11_comes 5 = .ok (.istore_n 3, 1) := by decide +kernel
theorem dX11_comes_6 : decode cX11_comes 6 = .ok (.iload_n 3, 1) := by decide +kernel
theorem dX11_comes_7 : decode cX11_comes 7 = .ok (.iconst (-1), 1) := by decide +kernel
theorem dX11_comes_8 : decode cX11_comes 8 = .ok (.if_icmp .eq 21, 3) := by decide +kernel
theorem dX11_comes_11 : decode cX11_comes 11 = .ok (.aload_n 0, 1) := by decide +kernel
theorem dX11_comes_12 : decode cX11_comes 12 = .ok (.iload_n 3, 1) := by decide +kernel
theorem dX11_comes_13 : decode cX11_comes 13 = .ok (.invokevirtual 141, 3) := by decide +kernel
theorem dX11_comes_16 : decode cX11_comes 16 = .ok (.aload_n 0, 1) := by decide +kernel
theorem dX11_comes_17 : decode cX11_comes 17 = .ok (.iload_n 1, 1) := by decide +kernel
theorem dX11_comes_18 : decode cX11_comes 18 = .ok (.iload_n 2, 1) := by decide +kernel
theorem dX11_comes_19 : decode cX11_comes 19 = .ok (.invokevirtual 144, 3) := by decide +kernel
theorem dX11_comes_22 : decode cX11_comes 22 = .ok (.if_icmp .gt 7, 3) := by decide +kernel
theorem dX11_comes_25 : decode cX11_comes 25 = .ok (.iconst 1, 1) := by decide +kernel
theorem dX11_comes_26 : decode cX11_comes 26 = .ok (.goto 4, 3) := by decide +kernel
theorem dX11_comes_29 : decode cX11_comes 29 = .ok (.iconst 0, 1) := by decide +kernel
theorem dX11_comes_30 : decode cX11_comes 30 = .ok (.ireturn, 1) := by decide +kernel
theorem dX11_daresOf_0 : decode cX11_daresOf 0 = .ok (.iconst 0, 1) := by decide +kernel
theorem dX11_daresOf_1 : decode cX11_daresOf 1 = .ok (.istore_n 2, 1) := by decide +kernel
theorem dX11_daresOf_2 : decode cX11_daresOf 2 = .ok (.iconst 0, 1) := by decide +kernel
theorem dX11_daresOf_3 : decode cX11_daresOf 3 = .ok (.istore_n 3, 1) := by decide +kernel
theorem dX11_daresOf_4 : decode cX11_daresOf 4 = .ok (.iload_n 3, 1) := by decide +kernel
theorem dX11_daresOf_5 : decode cX11_daresOf 5 = .ok (.aload_n 0, 1) := by decide +kernel
theorem dX11_daresOf_6 : decode cX11_daresOf 6 = .ok (.getfield 16, 3) := by decide +kernel
theorem dX11_daresOf_9 : decode cX11_daresOf 9 = .ok (.iconst 1, 1) := by decide +kernel
theorem dX11_daresOf_10 : decode cX11_daresOf 10 = .ok (.iaload, 1) := by decide +kernel
theorem dX11_daresOf_11 : decode cX11_daresOf 11 = .ok (.if_icmp .ge 28, 3) := by decide +kernel
theorem dX11_daresOf_14 : decode cX11_daresOf 14 = .ok (.iload_n 2, 1) := by decide +kernel
theorem dX11_daresOf_15 : decode cX11_daresOf 15 = .ok (.aload_n 0, 1) := by decide +kernel
theorem dX11_daresOf_16 : decode cX11_daresOf 16 = .ok (.iload_n 1, 1) := by decide +kernel
theorem dX11_daresOf_17 : decode cX11_daresOf 17 = .ok (.iload_n 3, 1) := by decide +kernel
theorem dX11_daresOf_18 : decode cX11_daresOf 18 = .ok (.invokevirtual 147, 3) := by decide +kernel
theorem dX11_daresOf_21 : decode cX11_daresOf 21 = .ok (.ifCond .eq 9, 3) := by decide +kernel
theorem dX11_daresOf_24 : decode cX11_daresOf 24 = .ok (.iconst 1, 1) := by decide +kernel
theorem dX11_daresOf_25 : decode cX11_daresOf 25 = .ok (.iload_n 3, 1) := by decide +kernel
theorem dX11_daresOf_26 : decode cX11_daresOf 26 = .ok (.ishl, 1) := by decide +kernel
theorem dX11_daresOf_27 : decode cX11_daresOf 27 = .ok (.goto 4, 3) := by decide +kernel
theorem dX11_daresOf_30 : decode cX11_daresOf 30 = .ok (.iconst 0, 1) := by decide +kernel
theorem dX11_daresOf_31 : decode cX11_daresOf 31 = .ok (.ior, 1) := by decide +kernel
theorem dX11_daresOf_32 : decode cX11_daresOf 32 = .ok (.istore_n 2, 1) := by decide +kernel
theorem dX11_daresOf_33 : decode cX11_daresOf 33 = .ok (.iinc 3 1, 3) := by decide +kernel
theorem dX11_daresOf_36 : decode cX11_daresOf 36 = .ok (.goto (-32), 3) := by decide +kernel
theorem dX11_daresOf_39 : decode cX11_daresOf 39 = .ok (.iload_n 2, 1) := by decide +kernel
theorem dX11_daresOf_40 : decode cX11_daresOf 40 = .ok (.ireturn, 1) := by decide +kernel
theorem dX11_fars_0 : decode cX11_fars 0 = .ok (.iconst 0, 1) := by decide +kernel
theorem dX11_fars_1 : decode cX11_fars 1 = .ok (.istore_n 3, 1) := by decide +kernel
theorem dX11_fars_2 : decode cX11_fars 2 = .ok (.iload_n 3, 1) := by decide +kernel
theorem dX11_fars_3 : decode cX11_fars 3 = .ok (.bipush 8, 2) := by decide +kernel
theorem dX11_fars_5 : decode cX11_fars 5 = .ok (.if_icmp .ge 26, 3) := by decide +kernel
theorem dX11_fars_8 : decode cX11_fars 8 = .ok (.aload_n 0, 1) := by decide +kernel
theorem dX11_fars_9 : decode cX11_fars 9 = .ok (.getfield 44, 3) := by decide +kernel
theorem dX11_fars_12 : decode cX11_fars 12 = .ok (.iload_n 3, 1) := by decide +kernel
theorem dX11_fars_13 : decode cX11_fars 13 = .ok (.iload_n 3, 1) := by decide +kernel
theorem dX11_fars_14 : decode cX11_fars 14 = .ok (.iload_n 1, 1) := by decide +kernel
theorem dX11_fars_15 : decode cX11_fars 15 = .ok (.if_icmp .ne 7, 3) := by decide +kernel
theorem dX11_fars_18 : decode cX11_fars 18 = .ok (.iconst 0, 1) := by decide +kernel
theorem dX11_fars_19 : decode cX11_fars 19 = .ok (.goto 5, 3) := by decide +kernel
theorem dX11_fars_22 : decode cX11_fars 22 = .ok (.bipush 99, 2) := by decide +kernel
theorem dX11_fars_24 : decode cX11_fars 24 = .ok (.iastore, 1) := by decide +kernel
theorem dX11_fars_25 : decode cX11_fars 25 = .ok (.iinc 3 1, 3) := by decide +kernel
theorem dX11_fars_28 : decode cX11_fars 28 = .ok (.goto (-26), 3) := by decide +kernel
theorem dX11_fars_31 : decode cX11_fars 31 = .ok (.iconst 0, 1) := by decide +kernel
theorem dX11_fars_32 : decode cX11_fars 32 = .ok (.istore_n 3, 1) := by decide +kernel
theorem dX11_fars_33 : decode cX11_fars 33 = .ok (.iload_n 3, 1) := by decide +kernel
theorem dX11_fars_34 : decode cX11_fars 34 = .ok (.bipush 8, 2) := by decide +kernel
theorem dX11_fars_36 : decode cX11_fars 36 = .ok (.if_icmp .ge 151, 3) := by decide +kernel
theorem dX11_fars_39 : decode cX11_fars 39 = .ok (.iconst 0, 1) := by decide +kernel
theorem dX11_fars_40 : decode cX11_fars 40 = .ok (.istore 4, 2) := by decide +kernel
theorem dX11_fars_42 : decode cX11_fars 42 = .ok (.iload 4, 2) := by decide +kernel
theorem dX11_fars_44 : decode cX11_fars 44 = .ok (.aload_n 0, 1) := by decide +kernel
theorem dX11_fars_45 : decode cX11_fars 45 = .ok (.getfield 16, 3) := by decide +kernel
theorem dX11_fars_48 : decode cX11_fars 48 = .ok (.iconst 1, 1) := by decide +kernel
theorem dX11_fars_49 : decode cX11_fars 49 = .ok (.iaload, 1) := by decide +kernel
theorem dX11_fars_50 : decode cX11_fars 50 = .ok (.if_icmp .ge 131, 3) := by decide +kernel
theorem dX11_fars_53 : decode cX11_fars 53 = .ok (.iload_n 2, 1) := by decide +kernel
theorem dX11_fars_54 : decode cX11_fars 54 = .ok (.iload 4, 2) := by decide +kernel
theorem dX11_fars_56 : decode cX11_fars 56 = .ok (.invokestatic 151, 3) := by decide +kernel
theorem dX11_fars_59 : decode cX11_fars 59 = .ok (.ifCond .eq 116, 3) := by decide +kernel
theorem dX11_fars_62 : decode cX11_fars 62 = .ok (.aload_n 0, 1) := by decide +kernel
theorem dX11_fars_63 : decode cX11_fars 63 = .ok (.getfield 16, 3) := by decide +kernel
theorem dX11_fars_66 : decode cX11_fars 66 = .ok (.iconst 4, 1) := by decide +kernel
theorem dX11_fars_67 : decode cX11_fars 67 = .ok (.iload 4, 2) := by decide +kernel
theorem dX11_fars_69 : decode cX11_fars 69 = .ok (.iadd, 1) := by decide +kernel
theorem dX11_fars_70 : decode cX11_fars 70 = .ok (.iaload, 1) := by decide +kernel
theorem dX11_fars_71 : decode cX11_fars 71 = .ok (.istore 5, 2) := by decide +kernel
theorem dX11_fars_73 : decode cX11_fars 73 = .ok (.aload_n 0, 1) := by decide +kernel
theorem dX11_fars_74 : decode cX11_fars 74 = .ok (.getfield 16, 3) := by decide +kernel
theorem dX11_fars_77 : decode cX11_fars 77 = .ok (.bipush 13, 2) := by decide +kernel
theorem dX11_fars_79 : decode cX11_fars 79 = .ok (.iload 4, 2) := by decide +kernel
theorem dX11_fars_81 : decode cX11_fars 81 = .ok (.iadd, 1) := by decide +kernel
theorem dX11_fars_82 : decode cX11_fars 82 = .ok (.iaload, 1) := by decide +kernel
theorem dX11_fars_83 : decode cX11_fars 83 = .ok (.istore 6, 2) := by decide +kernel
theorem dX11_fars_85 : decode cX11_fars 85 = .ok (.aload_n 0, 1) := by decide +kernel
theorem dX11_fars_86 : decode cX11_fars 86 = .ok (.getfield 44, 3) := by decide +kernel
theorem dX11_fars_89 : decode cX11_fars 89 = .ok (.iload 5, 2) := by decide +kernel
theorem dX11_fars_91 : decode cX11_fars 91 = .ok (.aload_n 0, 1) := by decide +kernel
theorem dX11_fars_92 : decode cX11_fars 92 = .ok (.getfield 44, 3) := by decide +kernel
theorem dX11_fars_95 : decode cX11_fars 95 = .ok (.iload 6, 2) := by decide +kernel
theorem dX11_fars_97 : decode cX11_fars 97 = .ok (.iaload, 1) := by decide +kernel
theorem dX11_fars_98 : decode cX11_fars 98 = .ok (.iconst 1, 1) := by decide +kernel
theorem dX11_fars_99 : decode cX11_fars 99 = .ok (.iadd, 1) := by decide +kernel
theorem dX11_fars_100 : decode cX11_fars 100 = .ok (.aload_n 0, 1) := by decide +kernel
theorem dX11_fars_101 : decode cX11_fars 101 = .ok (.getfield 44, 3) := by decide +kernel
theorem dX11_fars_104 : decode cX11_fars 104 = .ok (.iload 5, 2) := by decide +kernel
theorem dX11_fars_106 : decode cX11_fars 106 = .ok (.iaload, 1) := by decide +kernel
theorem dX11_fars_107 : decode cX11_fars 107 = .ok (.if_icmp .ge 15, 3) := by decide +kernel
theorem dX11_fars_110 : decode cX11_fars 110 = .ok (.aload_n 0, 1) := by decide +kernel
theorem dX11_fars_111 : decode cX11_fars 111 = .ok (.getfield 44, 3) := by decide +kernel
theorem dX11_fars_114 : decode cX11_fars 114 = .ok (.iload 6, 2) := by decide +kernel
theorem dX11_fars_116 : decode cX11_fars 116 = .ok (.iaload, 1) := by decide +kernel
theorem dX11_fars_117 : decode cX11_fars 117 = .ok (.iconst 1, 1) := by decide +kernel
theorem dX11_fars_118 : decode cX11_fars 118 = .ok (.iadd, 1) := by decide +kernel
theorem dX11_fars_119 : decode cX11_fars 119 = .ok (.goto 10, 3) := by decide +kernel
theorem dX11_fars_122 : decode cX11_fars 122 = .ok (.aload_n 0, 1) := by decide +kernel
theorem dX11_fars_123 : decode cX11_fars 123 = .ok (.getfield 44, 3) := by decide +kernel
theorem dX11_fars_126 : decode cX11_fars 126 = .ok (.iload 5, 2) := by decide +kernel
theorem dX11_fars_128 : decode cX11_fars 128 = .ok (.iaload, 1) := by decide +kernel
theorem dX11_fars_129 : decode cX11_fars 129 = .ok (.iastore, 1) := by decide +kernel
theorem dX11_fars_130 : decode cX11_fars 130 = .ok (.aload_n 0, 1) := by decide +kernel
theorem dX11_fars_131 : decode cX11_fars 131 = .ok (.getfield 44, 3) := by decide +kernel
theorem dX11_fars_134 : decode cX11_fars 134 = .ok (.iload 6, 2) := by decide +kernel
theorem dX11_fars_136 : decode cX11_fars 136 = .ok (.aload_n 0, 1) := by decide +kernel
theorem dX11_fars_137 : decode cX11_fars 137 = .ok (.getfield 44, 3) := by decide +kernel
theorem dX11_fars_140 : decode cX11_fars 140 = .ok (.iload 5, 2) := by decide +kernel
theorem dX11_fars_142 : decode cX11_fars 142 = .ok (.iaload, 1) := by decide +kernel
theorem dX11_fars_143 : decode cX11_fars 143 = .ok (.iconst 1, 1) := by decide +kernel
theorem dX11_fars_144 : decode cX11_fars 144 = .ok (.iadd, 1) := by decide +kernel
theorem dX11_fars_145 : decode cX11_fars 145 = .ok (.aload_n 0, 1) := by decide +kernel
theorem dX11_fars_146 : decode cX11_fars 146 = .ok (.getfield 44, 3) := by decide +kernel
theorem dX11_fars_149 : decode cX11_fars 149 = .ok (.iload 6, 2) := by decide +kernel
theorem dX11_fars_151 : decode cX11_fars 151 = .ok (.iaload, 1) := by decide +kernel
theorem dX11_fars_152 : decode cX11_fars 152 = .ok (.if_icmp .ge 15, 3) := by decide +kernel
theorem dX11_fars_155 : decode cX11_fars 155 = .ok (.aload_n 0, 1) := by decide +kernel
theorem dX11_fars_156 : decode cX11_fars 156 = .ok (.getfield 44, 3) := by decide +kernel
theorem dX11_fars_159 : decode cX11_fars 159 = .ok (.iload 5, 2) := by decide +kernel
theorem dX11_fars_161 : decode cX11_fars 161 = .ok (.iaload, 1) := by decide +kernel
theorem dX11_fars_162 : decode cX11_fars 162 = .ok (.iconst 1, 1) := by decide +kernel
theorem dX11_fars_163 : decode cX11_fars 163 = .ok (.iadd, 1) := by decide +kernel
theorem dX11_fars_164 : decode cX11_fars 164 = .ok (.goto 10, 3) := by decide +kernel
theorem dX11_fars_167 : decode cX11_fars 167 = .ok (.aload_n 0, 1) := by decide +kernel
theorem dX11_fars_168 : decode cX11_fars 168 = .ok (.getfield 44, 3) := by decide +kernel
theorem dX11_fars_171 : decode cX11_fars 171 = .ok (.iload 6, 2) := by decide +kernel
theorem dX11_fars_173 : decode cX11_fars 173 = .ok (.iaload, 1) := by decide +kernel
theorem dX11_fars_174 : decode cX11_fars 174 = .ok (.iastore, 1) := by decide +kernel
theorem dX11_fars_175 : decode cX11_fars 175 = .ok (.iinc 4 1, 3) := by decide +kernel
theorem dX11_fars_178 : decode cX11_fars 178 = .ok (.goto (-136), 3) := by decide +kernel
theorem dX11_fars_181 : decode cX11_fars 181 = .ok (.iinc 3 1, 3) := by decide +kernel
theorem dX11_fars_184 : decode cX11_fars 184 = .ok (.goto (-151), 3) := by decide +kernel
theorem dX11_fars_187 : decode cX11_fars 187 = .ok (.return_, 1) := by decide +kernel
theorem dX11_allBridges_0 : decode cX11_allBridges 0 = .ok (.iconst 1, 1) := by decide +kernel
theorem dX11_allBridges_1 : decode cX11_allBridges 1 = .ok (.aload_n 0, 1) := by decide +kernel
theorem dX11_allBridges_2 : decode cX11_allBridges 2 = .ok (.getfield 16, 3) := by decide +kernel
theorem dX11_allBridges_5 : decode cX11_allBridges 5 = .ok (.iconst 1, 1) := by decide +kernel
theorem dX11_allBridges_6 : decode cX11_allBridges 6 = .ok (.iaload, 1) := by decide +kernel
theorem dX11_allBridges_7 : decode cX11_allBridges 7 = .ok (.ishl, 1) := by decide +kernel
theorem dX11_allBridges_8 : decode cX11_allBridges 8 = .ok (.iconst 1, 1) := by decide +kernel
theorem dX11_allBridges_9 : decode cX11_allBridges 9 = .ok (.isub, 1) := by decide +kernel
theorem dX11_allBridges_10 : decode cX11_allBridges 10 = .ok (.ireturn, 1) := by decide +kernel
theorem dX11_isWay_0 : decode cX11_isWay 0 = .ok (.aload_n 0, 1) := by decide +kernel
theorem dX11_isWay_1 : decode cX11_isWay 1 = .ok (.iload_n 1, 1) := by decide +kernel
theorem dX11_isWay_2 : decode cX11_isWay 2 = .ok (.iload_n 3, 1) := by decide +kernel
theorem dX11_isWay_3 : decode cX11_isWay 3 = .ok (.invokevirtual 154, 3) := by decide +kernel
theorem dX11_isWay_6 : decode cX11_isWay 6 = .ok (.aload_n 0, 1) := by decide +kernel
theorem dX11_isWay_7 : decode cX11_isWay 7 = .ok (.getfield 44, 3) := by decide +kernel
theorem dX11_isWay_10 : decode cX11_isWay 10 = .ok (.iload_n 2, 1) := by decide +kernel
theorem dX11_isWay_11 : decode cX11_isWay 11 = .ok (.iaload, 1) := by decide +kernel
theorem dX11_isWay_12 : decode cX11_isWay 12 = .ok (.bipush 99, 2) := by decide +kernel
theorem dX11_isWay_14 : decode cX11_isWay 14 = .ok (.if_icmp .ge 7, 3) := by decide +kernel
theorem dX11_isWay_17 : decode cX11_isWay 17 = .ok (.iconst 1, 1) := by decide +kernel
theorem dX11_isWay_18 : decode cX11_isWay 18 = .ok (.goto 4, 3) := by decide +kernel
theorem dX11_isWay_21 : decode cX11_isWay 21 = .ok (.iconst 0, 1) := by decide +kernel
theorem dX11_isWay_22 : decode cX11_isWay 22 = .ok (.ireturn, 1) := by decide +kernel
theorem dX11_bottles_0 : decode cX11_bottles 0 = .ok (.iconst 0, 1) := by decide +kernel
theorem dX11_bottles_1 : decode cX11_bottles 1 = .ok (.istore_n 1, 1) := by decide +kernel
theorem dX11_bottles_2 : decode cX11_bottles 2 = .ok (.iconst 0, 1) := by decide +kernel
theorem dX11_bottles_3 : decode cX11_bottles 3 = .ok (.istore_n 2, 1) := by decide +kernel
theorem dX11_bottles_4 : decode cX11_bottles 4 = .ok (.iload_n 2, 1) := by decide +kernel
theorem dX11_bottles_5 : decode cX11_bottles 5 = .ok (.aload_n 0, 1) := by decide +kernel
theorem dX11_bottles_6 : decode cX11_bottles 6 = .ok (.getfield 16, 3) := by decide +kernel
theorem dX11_bottles_9 : decode cX11_bottles 9 = .ok (.iconst 1, 1) := by decide +kernel
theorem dX11_bottles_10 : decode cX11_bottles 10 = .ok (.iaload, 1) := by decide +kernel
theorem dX11_bottles_11 : decode cX11_bottles 11 = .ok (.if_icmp .ge 53, 3) := by decide +kernel
theorem dX11_bottles_14 : decode cX11_bottles 14 = .ok (.iload_n 1, 1) := by decide +kernel
theorem dX11_bottles_15 : decode cX11_bottles 15 = .ok (.aload_n 0, 1) := by decide +kernel
theorem dX11_bottles_16 : decode cX11_bottles 16 = .ok (.aload_n 0, 1) := by decide +kernel
theorem dX11_bottles_17 : decode cX11_bottles 17 = .ok (.getfield 16, 3) := by decide +kernel
theorem dX11_bottles_20 : decode cX11_bottles 20 = .ok (.iconst 4, 1) := by decide +kernel
theorem dX11_bottles_21 : decode cX11_bottles 21 = .ok (.iload_n 2, 1) := by decide +kernel
theorem dX11_bottles_22 : decode cX11_bottles 22 = .ok (.iadd, 1) := by decide +kernel
theorem dX11_bottles_23 : decode cX11_bottles 23 = .ok (.iaload, 1) := by decide +kernel
theorem dX11_bottles_24 : decode cX11_bottles 24 = .ok (.aload_n 0, 1) := by decide +kernel
theorem dX11_bottles_25 : decode cX11_bottles 25 = .ok (.getfield 16, 3) := by decide +kernel
theorem dX11_bottles_28 : decode cX11_bottles 28 = .ok (.bipush 13, 2) := by decide +kernel
theorem dX11_bottles_30 : decode cX11_bottles 30 = .ok (.iload_n 2, 1) := by decide +kernel
theorem dX11_bottles_31 : decode cX11_bottles 31 = .ok (.iadd, 1) := by decide +kernel
theorem dX11_bottles_32 : decode cX11_bottles 32 = .ok (.iaload, 1) := by decide +kernel
theorem dX11_bottles_33 : decode cX11_bottles 33 = .ok (.aload_n 0, 1) := by decide +kernel
theorem dX11_bottles_34 : decode cX11_bottles 34 = .ok (.invokevirtual 157, 3) := by decide +kernel
theorem dX11_bottles_37 : decode cX11_bottles 37 = .ok (.iconst 1, 1) := by decide +kernel
theorem dX11_bottles_38 : decode cX11_bottles 38 = .ok (.iload_n 2, 1) := by decide +kernel
theorem dX11_bottles_39 : decode cX11_bottles 39 = .ok (.ishl, 1) := by decide +kernel
theorem dX11_bottles_40 : decode cX11_bottles 40 = .ok (.iconst (-1), 1) := by decide +kernel
theorem dX11_bottles_41 : decode cX11_bottles 41 = .ok (.ixor, 1) := by decide +kernel
theorem dX11_bottles_42 : decode cX11_bottles 42 = .ok (.iand, 1) := by decide +kernel
theorem dX11_bottles_43 : decode cX11_bottles 43 = .ok (.invokevirtual 161, 3) := by decide +kernel
theorem dX11_bottles_46 : decode cX11_bottles 46 = .ok (.ifCond .eq 7, 3) := by decide +kernel
theorem dX11_bottles_49 : decode cX11_bottles 49 = .ok (.iconst 0, 1) := by decide +kernel
theorem dX11_bottles_50 : decode cX11_bottles 50 = .ok (.goto 6, 3) := by decide +kernel
theorem dX11_bottles_53 : decode cX11_bottles 53 = .ok (.iconst 1, 1) := by decide +kernel
theorem dX11_bottles_54 : decode cX11_bottles 54 = .ok (.iload_n 2, 1) := by decide +kernel
theorem dX11_bottles_55 : decode cX11_bottles 55 = .ok (.ishl, 1) := by decide +kernel
theorem dX11_bottles_56 : decode cX11_bottles 56 = .ok (.ior, 1) := by decide +kernel
theorem dX11_bottles_57 : decode cX11_bottles 57 = .ok (.istore_n 1, 1) := by decide +kernel
theorem dX11_bottles_58 : decode cX11_bottles 58 = .ok (.iinc 2 1, 3) := by decide +kernel
theorem dX11_bottles_61 : decode cX11_bottles 61 = .ok (.goto (-57), 3) := by decide +kernel
theorem dX11_bottles_64 : decode cX11_bottles 64 = .ok (.iload_n 1, 1) := by decide +kernel
theorem dX11_bottles_65 : decode cX11_bottles 65 = .ok (.ireturn, 1) := by decide +kernel
theorem dX11_farthest_0 : decode cX11_farthest 0 = .ok (.iconst 0, 1) := by decide +kernel
theorem dX11_farthest_1 : decode cX11_farthest 1 = .ok (.istore_n 1, 1) := by decide +kernel
theorem dX11_farthest_2 : decode cX11_farthest 2 = .ok (.iconst 0, 1) := by decide +kernel
theorem dX11_farthest_3 : decode cX11_farthest 3 = .ok (.istore_n 2, 1) := by decide +kernel
theorem dX11_farthest_4 : decode cX11_farthest 4 = .ok (.iload_n 2, 1) := by decide +kernel
theorem dX11_farthest_5 : decode cX11_farthest 5 = .ok (.aload_n 0, 1) := by decide +kernel
theorem dX11_farthest_6 : decode cX11_farthest 6 = .ok (.getfield 16, 3) := by decide +kernel
theorem dX11_farthest_9 : decode cX11_farthest 9 = .ok (.iconst 0, 1) := by decide +kernel
theorem dX11_farthest_10 : decode cX11_farthest 10 = .ok (.iaload, 1) := by decide +kernel
theorem dX11_farthest_11 : decode cX11_farthest 11 = .ok (.if_icmp .ge 68, 3) := by decide +kernel
theorem dX11_farthest_14 : decode cX11_farthest 14 = .ok (.aload_n 0, 1) := by decide +kernel
theorem dX11_farthest_15 : decode cX11_farthest 15 = .ok (.iload_n 2, 1) := by decide +kernel
