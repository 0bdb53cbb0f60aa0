theorem dX11_farthest_16 : decode cX11_farthest 16 = .ok (.aload_n 0, 1) := by decide +kernel
theorem dX11_farthest_17 : decode cX11_farthest 17 = .ok (.invokevirtual 157, 3) := by decide +kernel
theorem dX11_farthest_20 : decode cX11_farthest 20 = .ok (.invokevirtual 154, 3) := by decide +kernel
theorem dX11_farthest_23 : decode cX11_farthest 23 = .ok (.iconst 0, 1) := by decide +kernel
theorem dX11_farthest_24 : decode cX11_farthest 24 = .ok (.istore_n 3, 1) := by decide +kernel
theorem dX11_farthest_25 : decode cX11_farthest 25 = .ok (.iload_n 3, 1) := by decide +kernel
theorem dX11_farthest_26 : decode cX11_farthest 26 = .ok (.aload_n 0, 1) := by decide +kernel
theorem dX11_farthest_27 : decode cX11_farthest 27 = .ok (.getfield 16, 3) := by decide +kernel
theorem dX11_farthest_30 : decode cX11_farthest 30 = .ok (.iconst 0, 1) := by decide +kernel
theorem dX11_farthest_31 : decode cX11_farthest 31 = .ok (.iaload, 1) := by decide +kernel
theorem dX11_farthest_32 : decode cX11_farthest 32 = .ok (.if_icmp .ge 41, 3) := by decide +kernel
theorem dX11_farthest_35 : decode cX11_farthest 35 = .ok (.aload_n 0, 1) := by decide +kernel
theorem dX11_farthest_36 : decode cX11_farthest 36 = .ok (.getfield 44, 3) := by decide +kernel
theorem dX11_farthest_39 : decode cX11_farthest 39 = .ok (.iload_n 3, 1) := by decide +kernel
theorem dX11_farthest_40 : decode cX11_farthest 40 = .ok (.iaload, 1) := by decide +kernel
theorem dX11_farthest_41 : decode cX11_farthest 41 = .ok (.bipush 99, 2) := by decide +kernel
theorem dX11_farthest_43 : decode cX11_farthest 43 = .ok (.if_icmp .ge 22, 3) := by decide +kernel
theorem dX11_farthest_46 : decode cX11_farthest 46 = .ok (.aload_n 0, 1) := by decide +kernel
theorem dX11_farthest_47 : decode cX11_farthest 47 = .ok (.getfield 44, 3) := by decide +kernel
theorem dX11_farthest_50 : decode cX11_farthest 50 = .ok (.iload_n 3, 1) := by decide +kernel
theorem dX11_farthest_51 : decode cX11_farthest 51 = .ok (.iaload, 1) := by decide +kernel
theorem dX11_farthest_52 : decode cX11_farthest 52 = .ok (.iload_n 1, 1) := by decide +kernel
theorem dX11_farthest_53 : decode cX11_farthest 53 = .ok (.if_icmp .le 12, 3) := by decide +kernel
theorem dX11_farthest_56 : decode cX11_farthest 56 = .ok (.aload_n 0, 1) := by decide +kernel
theorem dX11_farthest_57 : decode cX11_farthest 57 = .ok (.getfield 44, 3) := by decide +kernel
theorem dX11_farthest_60 : decode cX11_farthest 60 = .ok (.iload_n 3, 1) := by decide +kernel
theorem dX11_farthest_61 : decode cX11_farthest 61 = .ok (.iaload, 1) := by decide +kernel
theorem dX11_farthest_62 : decode cX11_farthest 62 = .ok (.goto 4, 3) := by decide +kernel
theorem dX11_farthest_65 : decode cX11_farthest 65 = .ok (.iload_n 1, 1) := by decide +kernel
theorem dX11_farthest_66 : decode cX11_farthest 66 = .ok (.istore_n 1, 1) := by decide +kernel
theorem dX11_farthest_67 : decode cX11_farthest 67 = .ok (.iinc 3 1, 3) := by decide +kernel
theorem dX11_farthest_70 : decode cX11_farthest 70 = .ok (.goto (-45), 3) := by decide +kernel
theorem dX11_farthest_73 : decode cX11_farthest 73 = .ok (.iinc 2 1, 3) := by decide +kernel
theorem dX11_farthest_76 : decode cX11_farthest 76 = .ok (.goto (-72), 3) := by decide +kernel
theorem dX11_farthest_79 : decode cX11_farthest 79 = .ok (.iload_n 1, 1) := by decide +kernel
theorem dX11_farthest_80 : decode cX11_farthest 80 = .ok (.ireturn, 1) := by decide +kernel
theorem dX11_trusted_0 : decode cX11_trusted 0 = .ok (.iconst 0, 1) := by decide +kernel
theorem dX11_trusted_1 : decode cX11_trusted 1 = .ok (.istore_n 1, 1) := by decide +kernel
theorem dX11_trusted_2 : decode cX11_trusted 2 = .ok (.iconst 0, 1) := by decide +kernel
theorem dX11_trusted_3 : decode cX11_trusted 3 = .ok (.istore_n 2, 1) := by decide +kernel
theorem dX11_trusted_4 : decode cX11_trusted 4 = .ok (.iload_n 2, 1) := by decide +kernel
theorem dX11_trusted_5 : decode cX11_trusted 5 = .ok (.aload_n 0, 1) := by decide +kernel
theorem dX11_trusted_6 : decode cX11_trusted 6 = .ok (.getfield 16, 3) := by decide +kernel
theorem dX11_trusted_9 : decode cX11_trusted 9 = .ok (.iconst 3, 1) := by decide +kernel
theorem dX11_trusted_10 : decode cX11_trusted 10 = .ok (.iaload, 1) := by decide +kernel
theorem dX11_trusted_11 : decode cX11_trusted 11 = .ok (.if_icmp .ge 40, 3) := by decide +kernel
theorem dX11_trusted_14 : decode cX11_trusted 14 = .ok (.iload_n 1, 1) := by decide +kernel
theorem dX11_trusted_15 : decode cX11_trusted 15 = .ok (.aload_n 0, 1) := by decide +kernel
theorem dX11_trusted_16 : decode cX11_trusted 16 = .ok (.getfield 19, 3) := by decide +kernel
theorem dX11_trusted_19 : decode cX11_trusted 19 = .ok (.bipush 12, 2) := by decide +kernel
theorem dX11_trusted_21 : decode cX11_trusted 21 = .ok (.iload_n 2, 1) := by decide +kernel
theorem dX11_trusted_22 : decode cX11_trusted 22 = .ok (.iadd, 1) := by decide +kernel
theorem dX11_trusted_23 : decode cX11_trusted 23 = .ok (.iaload, 1) := by decide +kernel
theorem dX11_trusted_24 : decode cX11_trusted 24 = .ok (.aload_n 0, 1) := by decide +kernel
theorem dX11_trusted_25 : decode cX11_trusted 25 = .ok (.getfield 19, 3) := by decide +kernel
theorem dX11_trusted_28 : decode cX11_trusted 28 = .ok (.bipush 18, 2) := by decide +kernel
theorem dX11_trusted_30 : decode cX11_trusted 30 = .ok (.iload_n 2, 1) := by decide +kernel
theorem dX11_trusted_31 : decode cX11_trusted 31 = .ok (.iadd, 1) := by decide +kernel
theorem dX11_trusted_32 : decode cX11_trusted 32 = .ok (.iaload, 1) := by decide +kernel
theorem dX11_trusted_33 : decode cX11_trusted 33 = .ok (.if_icmp .le 9, 3) := by decide +kernel
theorem dX11_trusted_36 : decode cX11_trusted 36 = .ok (.iconst 1, 1) := by decide +kernel
theorem dX11_trusted_37 : decode cX11_trusted 37 = .ok (.iload_n 2, 1) := by decide +kernel
theorem dX11_trusted_38 : decode cX11_trusted 38 = .ok (.ishl, 1) := by decide +kernel
theorem dX11_trusted_39 : decode cX11_trusted 39 = .ok (.goto 4, 3) := by decide +kernel
theorem dX11_trusted_42 : decode cX11_trusted 42 = .ok (.iconst 0, 1) := by decide +kernel
theorem dX11_trusted_43 : decode cX11_trusted 43 = .ok (.ior, 1) := by decide +kernel
theorem dX11_trusted_44 : decode cX11_trusted 44 = .ok (.istore_n 1, 1) := by decide +kernel
theorem dX11_trusted_45 : decode cX11_trusted 45 = .ok (.iinc 2 1, 3) := by decide +kernel
theorem dX11_trusted_48 : decode cX11_trusted 48 = .ok (.goto (-44), 3) := by decide +kernel
theorem dX11_trusted_51 : decode cX11_trusted 51 = .ok (.iload_n 1, 1) := by decide +kernel
theorem dX11_trusted_52 : decode cX11_trusted 52 = .ok (.ireturn, 1) := by decide +kernel
theorem dX11_driest_0 : decode cX11_driest 0 = .ok (.iconst (-1), 1) := by decide +kernel
theorem dX11_driest_1 : decode cX11_driest 1 = .ok (.istore_n 1, 1) := by decide +kernel
theorem dX11_driest_2 : decode cX11_driest 2 = .ok (.aload_n 0, 1) := by decide +kernel
theorem dX11_driest_3 : decode cX11_driest 3 = .ok (.getfield 16, 3) := by decide +kernel
theorem dX11_driest_6 : decode cX11_driest 6 = .ok (.iconst 3, 1) := by decide +kernel
theorem dX11_driest_7 : decode cX11_driest 7 = .ok (.iaload, 1) := by decide +kernel
theorem dX11_driest_8 : decode cX11_driest 8 = .ok (.iconst 1, 1) := by decide +kernel
theorem dX11_driest_9 : decode cX11_driest 9 = .ok (.isub, 1) := by decide +kernel
theorem dX11_driest_10 : decode cX11_driest 10 = .ok (.istore_n 2, 1) := by decide +kernel
theorem dX11_driest_11 : decode cX11_driest 11 = .ok (.iload_n 2, 1) := by decide +kernel
theorem dX11_driest_12 : decode cX11_driest 12 = .ok (.ifCond .lt 41, 3) := by decide +kernel
theorem dX11_driest_15 : decode cX11_driest 15 = .ok (.iload_n 1, 1) := by decide +kernel
theorem dX11_driest_16 : decode cX11_driest 16 = .ok (.iconst (-1), 1) := by decide +kernel
theorem dX11_driest_17 : decode cX11_driest 17 = .ok (.if_icmp .eq 24, 3) := by decide +kernel
theorem dX11_driest_20 : decode cX11_driest 20 = .ok (.aload_n 0, 1) := by decide +kernel
theorem dX11_driest_21 : decode cX11_driest 21 = .ok (.getfield 19, 3) := by decide +kernel
theorem dX11_driest_24 : decode cX11_driest 24 = .ok (.bipush 18, 2) := by decide +kernel
theorem dX11_driest_26 : decode cX11_driest 26 = .ok (.iload_n 2, 1) := by decide +kernel
theorem dX11_driest_27 : decode cX11_driest 27 = .ok (.iadd, 1) := by decide +kernel
theorem dX11_driest_28 : decode cX11_driest 28 = .ok (.iaload, 1) := by decide +kernel
theorem dX11_driest_29 : decode cX11_driest 29 = .ok (.aload_n 0, 1) := by decide +kernel
theorem dX11_driest_30 : decode cX11_driest 30 = .ok (.getfield 19, 3) := by decide +kernel
theorem dX11_driest_33 : decode cX11_driest 33 = .ok (.bipush 18, 2) := by decide +kernel
theorem dX11_driest_35 : decode cX11_driest 35 = .ok (.iload_n 1, 1) := by decide +kernel
theorem dX11_driest_36 : decode cX11_driest 36 = .ok (.iadd, 1) := by decide +kernel
theorem dX11_driest_37 : decode cX11_driest 37 = .ok (.iaload, 1) := by decide +kernel
theorem dX11_driest_38 : decode cX11_driest 38 = .ok (.if_icmp .gt 7, 3) := by decide +kernel
theorem dX11_driest_41 : decode cX11_driest 41 = .ok (.iload_n 2, 1) := by decide +kernel
theorem dX11_driest_42 : decode cX11_driest 42 = .ok (.goto 4, 3) := by decide +kernel
theorem dX11_driest_45 : decode cX11_driest 45 = .ok (.iload_n 1, 1) := by decide +kernel
theorem dX11_driest_46 : decode cX11_driest 46 = .ok (.istore_n 1, 1) := by decide +kernel
theorem dX11_driest_47 : decode cX11_driest 47 = .ok (.iinc 2 (-1), 3) := by decide +kernel
theorem dX11_driest_50 : decode cX11_driest 50 = .ok (.goto (-39), 3) := by decide +kernel
theorem dX11_driest_53 : decode cX11_driest 53 = .ok (.iload_n 1, 1) := by decide +kernel
theorem dX11_driest_54 : decode cX11_driest 54 = .ok (.ireturn, 1) := by decide +kernel
theorem dX11_manned_0 : decode cX11_manned 0 = .ok (.iconst 0, 1) := by decide +kernel
theorem dX11_manned_1 : decode cX11_manned 1 = .ok (.istore_n 1, 1) := by decide +kernel
theorem dX11_manned_2 : decode cX11_manned 2 = .ok (.iconst 0, 1) := by decide +kernel
theorem dX11_manned_3 : decode cX11_manned 3 = .ok (.istore_n 2, 1) := by decide +kernel
theorem dX11_manned_4 : decode cX11_manned 4 = .ok (.iload_n 2, 1) := by decide +kernel
theorem dX11_manned_5 : decode cX11_manned 5 = .ok (.aload_n 0, 1) := by decide +kernel
theorem dX11_manned_6 : decode cX11_manned 6 = .ok (.getfield 16, 3) := by decide +kernel
theorem dX11_manned_9 : decode cX11_manned 9 = .ok (.iconst 1, 1) := by decide +kernel
theorem dX11_manned_10 : decode cX11_manned 10 = .ok (.iaload, 1) := by decide +kernel
theorem dX11_manned_11 : decode cX11_manned 11 = .ok (.if_icmp .ge 26, 3) := by decide +kernel
theorem dX11_manned_14 : decode cX11_manned 14 = .ok (.iload_n 1, 1) := by decide +kernel
theorem dX11_manned_15 : decode cX11_manned 15 = .ok (.aload_n 0, 1) := by decide +kernel
theorem dX11_manned_16 : decode cX11_manned 16 = .ok (.iload_n 2, 1) := by decide +kernel
theorem dX11_manned_17 : decode cX11_manned 17 = .ok (.invokevirtual 138, 3) := by decide +kernel
theorem dX11_manned_20 : decode cX11_manned 20 = .ok (.iconst (-1), 1) := by decide +kernel
theorem dX11_manned_21 : decode cX11_manned 21 = .ok (.if_icmp .ne 7, 3) := by decide +kernel
theorem dX11_manned_24 : decode cX11_manned 24 = .ok (.iconst 0, 1) := by decide +kernel
theorem dX11_manned_25 : decode cX11_manned 25 = .ok (.goto 4, 3) := by decide +kernel
theorem dX11_manned_28 : decode cX11_manned 28 = .ok (.iconst 1, 1) := by decide +kernel
theorem dX11_manned_29 : decode cX11_manned 29 = .ok (.iadd, 1) := by decide +kernel
theorem dX11_manned_30 : decode cX11_manned 30 = .ok (.istore_n 1, 1) := by decide +kernel
theorem dX11_manned_31 : decode cX11_manned 31 = .ok (.iinc 2 1, 3) := by decide +kernel
theorem dX11_manned_34 : decode cX11_manned 34 = .ok (.goto (-30), 3) := by decide +kernel
theorem dX11_manned_37 : decode cX11_manned 37 = .ok (.iload_n 1, 1) := by decide +kernel
theorem dX11_manned_38 : decode cX11_manned 38 = .ok (.ireturn, 1) := by decide +kernel
theorem dX11_told_0 : decode cX11_told 0 = .ok (.aload_n 0, 1) := by decide +kernel
theorem dX11_told_1 : decode cX11_told 1 = .ok (.iconst 0, 1) := by decide +kernel
theorem dX11_told_2 : decode cX11_told 2 = .ok (.putfield 63, 3) := by decide +kernel
theorem dX11_told_5 : decode cX11_told 5 = .ok (.iload_n 1, 1) := by decide +kernel
theorem dX11_told_6 : decode cX11_told 6 = .ok (.iconst 0, 1) := by decide +kernel
theorem dX11_told_7 : decode cX11_told 7 = .ok (.bipush 14, 2) := by decide +kernel
theorem dX11_told_9 : decode cX11_told 9 = .ok (.invokestatic 66, 3) := by decide +kernel
theorem dX11_told_12 : decode cX11_told 12 = .ok (.ifCond .ne 6, 3) := by decide +kernel
theorem dX11_told_15 : decode cX11_told 15 = .ok (.ldc 70, 2) := by decide +kernel
theorem dX11_told_17 : decode cX11_told 17 = .ok (.ireturn, 1) := by decide +kernel
theorem dX11_told_18 : decode cX11_told 18 = .ok (.iload_n 1, 1) := by decide +kernel
theorem dX11_told_19 : decode cX11_told 19 = .ok (.bipush 7, 2) := by decide +kernel
theorem dX11_told_21 : decode cX11_told 21 = .ok (.if_icmp .ge 49, 3) := by decide +kernel
theorem dX11_told_24 : decode cX11_told 24 = .ok (.iload_n 1, 1) := by decide +kernel
theorem dX11_told_25 : decode cX11_told 25 = .ok (.iconst 4, 1) := by decide +kernel
theorem dX11_told_26 : decode cX11_told 26 = .ok (.if_icmp .ge 12, 3) := by decide +kernel
theorem dX11_told_29 : decode cX11_told 29 = .ok (.aload_n 0, 1) := by decide +kernel
theorem dX11_told_30 : decode cX11_told 30 = .ok (.getfield 16, 3) := by decide +kernel
theorem dX11_told_33 : decode cX11_told 33 = .ok (.iload_n 1, 1) := by decide +kernel
theorem dX11_told_34 : decode cX11_told 34 = .ok (.iaload, 1) := by decide +kernel
theorem dX11_told_35 : decode cX11_told 35 = .ok (.goto 34, 3) := by decide +kernel
theorem dX11_told_38 : decode cX11_told 38 = .ok (.iload_n 1, 1) := by decide +kernel
theorem dX11_told_39 : decode cX11_told 39 = .ok (.iconst 4, 1) := by decide +kernel
theorem dX11_told_40 : decode cX11_told 40 = .ok (.if_icmp .ne 10, 3) := by decide +kernel
theorem dX11_told_43 : decode cX11_told 43 = .ok (.aload_n 0, 1) := by decide +kernel
theorem dX11_told_44 : decode cX11_told 44 = .ok (.getfield 71, 3) := by decide +kernel
theorem dX11_told_47 : decode cX11_told 47 = .ok (.goto 22, 3) := by decide +kernel
theorem dX11_told_50 : decode cX11_told 50 = .ok (.iload_n 1, 1) := by decide +kernel
theorem dX11_told_51 : decode cX11_told 51 = .ok (.iconst 5, 1) := by decide +kernel
theorem dX11_told_52 : decode cX11_told 52 = .ok (.if_icmp .ne 13, 3) := by decide +kernel
theorem dX11_told_55 : decode cX11_told 55 = .ok (.aload_n 0, 1) := by decide +kernel
theorem dX11_told_56 : decode cX11_told 56 = .ok (.getfield 19, 3) := by decide +kernel
theorem dX11_told_59 : decode cX11_told 59 = .ok (.bipush 51, 2) := by decide +kernel
theorem dX11_told_61 : decode cX11_told 61 = .ok (.iaload, 1) := by decide +kernel
theorem dX11_told_62 : decode cX11_told 62 = .ok (.goto 7, 3) := by decide +kernel
theorem dX11_told_65 : decode cX11_told 65 = .ok (.aload_n 0, 1) := by decide +kernel
theorem dX11_told_66 : decode cX11_told 66 = .ok (.invokevirtual 164, 3) := by decide +kernel
theorem dX11_told_69 : decode cX11_told 69 = .ok (.ireturn, 1) := by decide +kernel
theorem dX11_told_70 : decode cX11_told 70 = .ok (.iload_n 1, 1) := by decide +kernel
theorem dX11_told_71 : decode cX11_told 71 = .ok (.bipush 11, 2) := by decide +kernel
theorem dX11_told_73 : decode cX11_told 73 = .ok (.if_icmp .ge 47, 3) := by decide +kernel
theorem dX11_told_76 : decode cX11_told 76 = .ok (.iload_n 1, 1) := by decide +kernel
theorem dX11_told_77 : decode cX11_told 77 = .ok (.bipush 7, 2) := by decide +kernel
theorem dX11_told_79 : decode cX11_told 79 = .ok (.if_icmp .ne 10, 3) := by decide +kernel
theorem dX11_told_82 : decode cX11_told 82 = .ok (.aload_n 0, 1) := by decide +kernel
theorem dX11_told_83 : decode cX11_told 83 = .ok (.invokevirtual 167, 3) := by decide +kernel
theorem dX11_told_86 : decode cX11_told 86 = .ok (.goto 33, 3) := by decide +kernel
theorem dX11_told_89 : decode cX11_told 89 = .ok (.iload_n 1, 1) := by decide +kernel
theorem dX11_told_90 : decode cX11_told 90 = .ok (.bipush 8, 2) := by decide +kernel
theorem dX11_told_92 : decode cX11_told 92 = .ok (.if_icmp .ne 10, 3) := by decide +kernel
theorem dX11_told_95 : decode cX11_told 95 = .ok (.aload_n 0, 1) := by decide +kernel
theorem dX11_told_96 : decode cX11_told 96 = .ok (.invokevirtual 170, 3) := by decide +kernel
theorem dX11_told_99 : decode cX11_told 99 = .ok (.goto 20, 3) := by decide +kernel
theorem dX11_told_102 : decode cX11_told 102 = .ok (.iload_n 1, 1) := by decide +kernel
theorem dX11_told_103 : decode cX11_told 103 = .ok (.bipush 9, 2) := by decide +kernel
theorem dX11_told_105 : decode cX11_told 105 = .ok (.if_icmp .ne 10, 3) := by decide +kernel
theorem dX11_told_108 : decode cX11_told 108 = .ok (.aload_n 0, 1) := by decide +kernel
theorem dX11_told_109 : decode cX11_told 109 = .ok (.invokevirtual 173, 3) := by decide +kernel
theorem dX11_told_112 : decode cX11_told 112 = .ok (.goto 7, 3) := by decide +kernel
theorem dX11_told_115 : decode cX11_told 115 = .ok (.aload_n 0, 1) := by decide +kernel
theorem dX11_told_116 : decode cX11_told 116 = .ok (.invokevirtual 176, 3) := by decide +kernel
theorem dX11_told_119 : decode cX11_told 119 = .ok (.ireturn, 1) := by decide +kernel
theorem dX11_told_120 : decode cX11_told 120 = .ok (.iload_n 1, 1) := by decide +kernel
theorem dX11_told_121 : decode cX11_told 121 = .ok (.bipush 11, 2) := by decide +kernel
theorem dX11_told_123 : decode cX11_told 123 = .ok (.if_icmp .ne 13, 3) := by decide +kernel
theorem dX11_told_126 : decode cX11_told 126 = .ok (.aload_n 0, 1) := by decide +kernel
theorem dX11_told_127 : decode cX11_told 127 = .ok (.getfield 19, 3) := by decide +kernel
theorem dX11_told_130 : decode cX11_told 130 = .ok (.bipush 52, 2) := by decide +kernel
theorem dX11_told_132 : decode cX11_told 132 = .ok (.iaload, 1) := by decide +kernel
theorem dX11_told_133 : decode cX11_told 133 = .ok (.goto 33, 3) := by decide +kernel
theorem dX11_told_136 : decode cX11_told 136 = .ok (.iload_n 1, 1) := by decide +kernel
theorem dX11_told_137 : decode cX11_told 137 = .ok (.bipush 12, 2) := by decide +kernel
theorem dX11_told_139 : decode cX11_told 139 = .ok (.if_icmp .ne 10, 3) := by decide +kernel
theorem dX11_told_142 : decode cX11_told 142 = .ok (.aload_n 0, 1) := by decide +kernel
theorem dX11_told_143 : decode cX11_told 143 = .ok (.getfield 126, 3) := by decide +kernel
theorem dX11_told_146 : decode cX11_told 146 = .ok (.goto 20, 3) := by decide +kernel
theorem dX11_told_149 : decode cX11_told 149 = .ok (.iload_n 1, 1) := by decide +kernel
theorem dX11_told_150 : decode cX11_told 150 = .ok (.bipush 13, 2) := by decide +kernel
theorem dX11_told_152 : decode cX11_told 152 = .ok (.if_icmp .ne 10, 3) := by decide +kernel
theorem dX11_told_155 : decode cX11_told 155 = .ok (.aload_n 0, 1) := by decide +kernel
theorem dX11_told_156 : decode cX11_told 156 = .ok (.getfield 129, 3) := by decide +kernel
theorem dX11_told_159 : decode cX11_told 159 = .ok (.goto 7, 3) := by decide +kernel
theorem dX11_told_162 : decode cX11_told 162 = .ok (.aload_n 0, 1) := by decide +kernel
theorem dX11_told_163 : decode cX11_told 163 = .ok (.getfield 132, 3) := by decide +kernel
theorem dX11_told_166 : decode cX11_told 166 = .ok (.ireturn, 1) := by decide +kernel
theorem dX11_bridge_0 : decode cX11_bridge 0 = .ok (.aload_n 0, 1) := by decide +kernel
theorem dX11_bridge_1 : decode cX11_bridge 1 = .ok (.iconst 0, 1) := by decide +kernel
theorem dX11_bridge_2 : decode cX11_bridge 2 = .ok (.putfield 63, 3) := by decide +kernel
theorem dX11_bridge_5 : decode cX11_bridge 5 = .ok (.aload_n 0, 1) := by decide +kernel
theorem dX11_bridge_6 : decode cX11_bridge 6 = .ok (.iload_n 1, 1) := by decide +kernel
theorem dX11_bridge_7 : decode cX11_bridge 7 = .ok (.invokevirtual 179, 3) := by decide +kernel
theorem dX11_bridge_10 : decode cX11_bridge 10 = .ok (.ifCond .ne 6, 3) := by decide +kernel
theorem dX11_bridge_13 : decode cX11_bridge 13 = .ok (.ldc 182, 2) := by decide +kernel
theorem dX11_bridge_15 : decode cX11_bridge 15 = .ok (.ireturn, 1) := by decide +kernel
theorem dX11_bridge_16 : decode cX11_bridge 16 = .ok (.iload_n 2, 1) := by decide +kernel
theorem dX11_bridge_17 : decode cX11_bridge 17 = .ok (.iconst 0, 1) := by decide +kernel
theorem dX11_bridge_18 : decode cX11_bridge 18 = .ok (.iconst 5, 1) := by decide +kernel
theorem dX11_bridge_19 : decode cX11_bridge 19 = .ok (.invokestatic 66, 3) := by decide +kernel
theorem dX11_bridge_22 : decode cX11_bridge 22 = .ok (.ifCond .ne 6, 3) := by decide +kernel
theorem dX11_bridge_25 : decode cX11_bridge 25 = .ok (.ldc 70, 2) := by decide +kernel
theorem dX11_bridge_27 : decode cX11_bridge 27 = .ok (.ireturn, 1) := by decide +kernel
theorem dX11_bridge_28 : decode cX11_bridge 28 = .ok (.iload_n 2, 1) := by decide +kernel
theorem dX11_bridge_29 : decode cX11_bridge 29 = .ok (.iconst 4, 1) := by decide +kernel
theorem dX11_bridge_30 : decode cX11_bridge 30 = .ok (.if_icmp .ge 17, 3) := by decide +kernel
theorem dX11_bridge_33 : decode cX11_bridge 33 = .ok (.aload_n 0, 1) := by decide +kernel
theorem dX11_bridge_34 : decode cX11_bridge 34 = .ok (.getfield 16, 3) := by decide +kernel
theorem dX11_bridge_37 : decode cX11_bridge 37 = .ok (.iconst 4, 1) := by decide +kernel
theorem dX11_bridge_38 : decode cX11_bridge 38 = .ok (.bipush 9, 2) := by decide +kernel
theorem dX11_bridge_40 : decode cX11_bridge 40 = .ok (.iload_n 2, 1) := by decide +kernel
theorem dX11_bridge_41 : decode cX11_bridge 41 = .ok (.imul, 1) := by decide +kernel
theorem dX11_bridge_42 : decode cX11_bridge 42 = .ok (.iadd, 1) := by decide +kernel
theorem dX11_bridge_43 : decode cX11_bridge 43 = .ok (.iload_n 1, 1) := by decide +kernel
theorem dX11_bridge_44 : decode cX11_bridge 44 = .ok (.iadd, 1) := by decide +kernel
theorem dX11_bridge_45 : decode cX11_bridge 45 = .ok (.iaload, 1) := by decide +kernel
theorem dX11_bridge_46 : decode cX11_bridge 46 = .ok (.ireturn, 1) := by decide +kernel
theorem dX11_bridge_47 : decode cX11_bridge 47 = .ok (.aload_n 0, 1) := by decide +kernel
theorem dX11_bridge_48 : decode cX11_bridge 48 = .ok (.iload_n 1, 1) := by decide +kernel
theorem dX11_bridge_49 : decode cX11_bridge 49 = .ok (.invokevirtual 138, 3) := by decide +kernel
theorem dX11_bridge_52 : decode cX11_bridge 52 = .ok (.istore_n 3, 1) := by decide +kernel
theorem dX11_bridge_53 : decode cX11_bridge 53 = .ok (.iload_n 2, 1) := by decide +kernel
theorem dX11_bridge_54 : decode cX11_bridge 54 = .ok (.iconst 4, 1) := by decide +kernel
theorem dX11_bridge_55 : decode cX11_bridge 55 = .ok (.if_icmp .eq 8, 3) := by decide +kernel
theorem dX11_bridge_58 : decode cX11_bridge 58 = .ok (.iload_n 3, 1) := by decide +kernel
theorem dX11_bridge_59 : decode cX11_bridge 59 = .ok (.iconst (-1), 1) := by decide +kernel
theorem dX11_bridge_60 : decode cX11_bridge 60 = .ok (.if_icmp .ne 7, 3) := by decide +kernel
theorem dX11_bridge_63 : decode cX11_bridge 63 = .ok (.iload_n 3, 1) := by decide +kernel
theorem dX11_bridge_64 : decode cX11_bridge 64 = .ok (.goto 8, 3) := by decide +kernel
theorem dX11_bridge_67 : decode cX11_bridge 67 = .ok (.aload_n 0, 1) := by decide +kernel
theorem dX11_bridge_68 : decode cX11_bridge 68 = .ok (.iload_n 3, 1) := by decide +kernel
theorem dX11_bridge_69 : decode cX11_bridge 69 = .ok (.invokevirtual 141, 3) := by decide +kernel
theorem dX11_bridge_72 : decode cX11_bridge 72 = .ok (.ireturn, 1) := by decide +kernel
theorem dX11_keeper_0 : decode cX11_keeper 0 = .ok (.aload_n 0, 1) := by decide +kernel
theorem dX11_keeper_1 : decode cX11_keeper 1 = .ok (.iconst 0, 1) := by decide +kernel
theorem dX11_keeper_2 : decode cX11_keeper 2 = .ok (.putfield 63, 3) := by decide +kernel
theorem dX11_keeper_5 : decode cX11_keeper 5 = .ok (.aload_n 0, 1) := by decide +kernel
theorem dX11_keeper_6 : decode cX11_keeper 6 = .ok (.iload_n 1, 1) := by decide +kernel
theorem dX11_keeper_7 : decode cX11_keeper 7 = .ok (.invokevirtual 183, 3) := by decide +kernel
theorem dX11_keeper_10 : decode cX11_keeper 10 = .ok (.ifCond .ne 6, 3) := by decide +kernel
theorem dX11_keeper_13 : decode cX11_keeper 13 = .ok (.ldc 182, 2) := by decide +kernel
theorem dX11_keeper_15 : decode cX11_keeper 15 = .ok (.ireturn, 1) := by decide +kernel
theorem dX11_keeper_16 : decode cX11_keeper 16 = .ok (.iload_n 2, 1) := by decide +kernel
theorem dX11_keeper_17 : decode cX11_keeper 17 = .ok (.iconst 0, 1) := by decide +kernel
theorem dX11_keeper_18 : decode cX11_keeper 18 = .ok (.iconst 4, 1) := by decide +kernel
theorem dX11_keeper_19 : decode cX11_keeper 19 = .ok (.invokestatic 66, 3) := by decide +kernel
theorem dX11_keeper_22 : decode cX11_keeper 22 = .ok (.ifCond .ne 6, 3) := by decide +kernel
theorem dX11_keeper_25 : decode cX11_keeper 25 = .ok (.ldc 70, 2) := by decide +kernel
theorem dX11_keeper_27 : decode cX11_keeper 27 = .ok (.ireturn, 1) := by decide +kernel
theorem dX11_keeper_28 : decode cX11_keeper 28 = .ok (.iload_n 2, 1) := by decide +kernel
theorem dX11_keeper_29 : decode cX11_keeper 29 = .ok (.iconst 2, 1) := by decide +kernel
theorem dX11_keeper_30 : decode cX11_keeper 30 = .ok (.if_icmp .ge 29, 3) := by decide +kernel
theorem dX11_keeper_33 : decode cX11_keeper 33 = .ok (.iload_n 2, 1) := by decide +kernel
theorem dX11_keeper_34 : decode cX11_keeper 34 = .ok (.ifCond .ne 15, 3) := by decide +kernel
theorem dX11_keeper_37 : decode cX11_keeper 37 = .ok (.aload_n 0, 1) := by decide +kernel
theorem dX11_keeper_38 : decode cX11_keeper 38 = .ok (.getfield 16, 3) := by decide +kernel
theorem dX11_keeper_41 : decode cX11_keeper 41 = .ok (.bipush 40, 2) := by decide +kernel
theorem dX11_keeper_43 : decode cX11_keeper 43 = .ok (.iload_n 1, 1) := by decide +kernel
theorem dX11_keeper_44 : decode cX11_keeper 44 = .ok (.iadd, 1) := by decide +kernel
theorem dX11_keeper_45 : decode cX11_keeper 45 = .ok (.iaload, 1) := by decide +kernel
theorem dX11_keeper_46 : decode cX11_keeper 46 = .ok (.goto 12, 3) := by decide +kernel
theorem dX11_keeper_49 : decode cX11_keeper 49 = .ok (.aload_n 0, 1) := by decide +kernel
theorem dX11_keeper_50 : decode cX11_keeper 50 = .ok (.getfield 19, 3) := by decide +kernel
theorem dX11_keeper_53 : decode cX11_keeper 53 = .ok (.bipush 42, 2) := by decide +kernel
theorem dX11_keeper_55 : decode cX11_keeper 55 = .ok (.iload_n 1, 1) := by decide +kernel
theorem dX11_keeper_56 : decode cX11_keeper 56 = .ok (.iadd, 1) := by decide +kernel
theorem dX11_keeper_57 : decode cX11_keeper 57 = .ok (.iaload, 1) := by decide +kernel
theorem dX11_keeper_58 : decode cX11_keeper 58 = .ok (.ireturn, 1) := by decide +kernel
theorem dX11_keeper_59 : decode cX11_keeper 59 = .ok (.iload_n 2, 1) := by decide +kernel
theorem dX11_keeper_60 : decode cX11_keeper 60 = .ok (.iconst 2, 1) := by decide +kernel
theorem dX11_keeper_61 : decode cX11_keeper 61 = .ok (.if_icmp .ne 15, 3) := by decide +kernel
theorem dX11_keeper_64 : decode cX11_keeper 64 = .ok (.aload_n 0, 1) := by decide +kernel
theorem dX11_keeper_65 : decode cX11_keeper 65 = .ok (.getfield 19, 3) := by decide +kernel
theorem dX11_keeper_68 : decode cX11_keeper 68 = .ok (.bipush 24, 2) := by decide +kernel
theorem dX11_keeper_70 : decode cX11_keeper 70 = .ok (.iload_n 1, 1) := by decide +kernel
theorem dX11_keeper_71 : decode cX11_keeper 71 = .ok (.iadd, 1) := by decide +kernel
theorem dX11_keeper_72 : decode cX11_keeper 72 = .ok (.iaload, 1) := by decide +kernel
theorem dX11_keeper_73 : decode cX11_keeper 73 = .ok (.goto 25, 3) := by decide +kernel
theorem dX11_keeper_76 : decode cX11_keeper 76 = .ok (.iload_n 2, 1) := by decide +kernel
theorem dX11_keeper_77 : decode cX11_keeper 77 = .ok (.iconst 3, 1) := by decide +kernel
theorem dX11_keeper_78 : decode cX11_keeper 78 = .ok (.if_icmp .ne 15, 3) := by decide +kernel
theorem dX11_keeper_81 : decode cX11_keeper 81 = .ok (.aload_n 0, 1) := by decide +kernel
theorem dX11_keeper_82 : decode cX11_keeper 82 = .ok (.getfield 19, 3) := by decide +kernel
theorem dX11_keeper_85 : decode cX11_keeper 85 = .ok (.bipush 33, 2) := by decide +kernel
theorem dX11_keeper_87 : decode cX11_keeper 87 = .ok (.iload_n 1, 1) := by decide +kernel
theorem dX11_keeper_88 : decode cX11_keeper 88 = .ok (.iadd, 1) := by decide +kernel
theorem dX11_keeper_89 : decode cX11_keeper 89 = .ok (.iaload, 1) := by decide +kernel
theorem dX11_keeper_90 : decode cX11_keeper 90 = .ok (.goto 8, 3) := by decide +kernel
theorem dX11_keeper_93 : decode cX11_keeper 93 = .ok (.aload_n 0, 1) := by decide +kernel
theorem dX11_keeper_94 : decode cX11_keeper 94 = .ok (.iload_n 1, 1) := by decide +kernel
theorem dX11_keeper_95 : decode cX11_keeper 95 = .ok (.invokevirtual 141, 3) := by decide +kernel
theorem dX11_keeper_98 : decode cX11_keeper 98 = .ok (.ireturn, 1) := by decide +kernel
theorem dX11_jumper_0 : decode cX11_jumper 0 = .ok (.aload_n 0, 1) := by decide +kernel
theorem dX11_jumper_1 : decode cX11_jumper 1 = .ok (.iconst 0, 1) := by decide +kernel
theorem dX11_jumper_2 : decode cX11_jumper 2 = .ok (.putfield 63, 3) := by decide +kernel
theorem dX11_jumper_5 : decode cX11_jumper 5 = .ok (.aload_n 0, 1) := by decide +kernel
theorem dX11_jumper_6 : decode cX11_jumper 6 = .ok (.iload_n 1, 1) := by decide +kernel
theorem dX11_jumper_7 : decode cX11_jumper 7 = .ok (.invokevirtual 186, 3) := by decide +kernel
theorem dX11_jumper_10 : decode cX11_jumper 10 = .ok (.ifCond .ne 6, 3) := by decide +kernel
theorem dX11_jumper_13 : decode cX11_jumper 13 = .ok (.ldc 182, 2) := by decide +kernel
theorem dX11_jumper_15 : decode cX11_jumper 15 = .ok (.ireturn, 1) := by decide +kernel
theorem dX11_jumper_16 : decode cX11_jumper 16 = .ok (.iload_n 2, 1) := by decide +kernel
theorem dX11_jumper_17 : decode cX11_jumper 17 = .ok (.iconst 0, 1) := by decide +kernel
theorem dX11_jumper_18 : decode cX11_jumper 18 = .ok (.iconst 5, 1) := by decide +kernel
theorem dX11_jumper_19 : decode cX11_jumper 19 = .ok (.invokestatic 66, 3) := by decide +kernel
theorem dX11_jumper_22 : decode cX11_jumper 22 = .ok (.ifCond .ne 6, 3) := by decide +kernel
theorem dX11_jumper_25 : decode cX11_jumper 25 = .ok (.ldc 70, 2) := by decide +kernel
theorem dX11_jumper_27 : decode cX11_jumper 27 = .ok (.ireturn, 1) := by decide +kernel
theorem dX11_jumper_28 : decode cX11_jumper 28 = .ok (.iload_n 2, 1) := by decide +kernel
theorem dX11_jumper_29 : decode cX11_jumper 29 = .ok (.ifCond .ne 15, 3) := by decide +kernel
theorem dX11_jumper_32 : decode cX11_jumper 32 = .ok (.aload_n 0, 1) := by decide +kernel
theorem dX11_jumper_33 : decode cX11_jumper 33 = .ok (.getfield 16, 3) := by decide +kernel
theorem dX11_jumper_36 : decode cX11_jumper 36 = .ok (.bipush 58, 2) := by decide +kernel
theorem dX11_jumper_38 : decode cX11_jumper 38 = .ok (.iload_n 1, 1) := by decide +kernel
theorem dX11_jumper_39 : decode cX11_jumper 39 = .ok (.iadd, 1) := by decide +kernel
theorem dX11_jumper_40 : decode cX11_jumper 40 = .ok (.iaload, 1) := by decide +kernel
theorem dX11_jumper_41 : decode cX11_jumper 41 = .ok (.goto 31, 3) := by decide +kernel
theorem dX11_jumper_44 : decode cX11_jumper 44 = .ok (.iload_n 2, 1) := by decide +kernel
theorem dX11_jumper_45 : decode cX11_jumper 45 = .ok (.iconst 5, 1) := by decide +kernel
theorem dX11_jumper_46 : decode cX11_jumper 46 = .ok (.if_icmp .ne 11, 3) := by decide +kernel
theorem dX11_jumper_49 : decode cX11_jumper 49 = .ok (.aload_n 0, 1) := by decide +kernel
theorem dX11_jumper_50 : decode cX11_jumper 50 = .ok (.iload_n 1, 1) := by decide +kernel
theorem dX11_jumper_51 : decode cX11_jumper 51 = .ok (.invokevirtual 189, 3) := by decide +kernel
theorem dX11_jumper_54 : decode cX11_jumper 54 = .ok (.goto 18, 3) := by decide +kernel
theorem dX11_jumper_57 : decode cX11_jumper 57 = .ok (.aload_n 0, 1) := by decide +kernel
theorem dX11_jumper_58 : decode cX11_jumper 58 = .ok (.getfield 19, 3) := by decide +kernel
theorem dX11_jumper_61 : decode cX11_jumper 61 = .ok (.iconst 0, 1) := by decide +kernel
theorem dX11_jumper_62 : decode cX11_jumper 62 = .ok (.bipush 6, 2) := by decide +kernel
theorem dX11_jumper_64 : decode cX11_jumper 64 = .ok (.iload_n 2, 1) := by decide +kernel
theorem dX11_jumper_65 : decode cX11_jumper 65 = .ok (.iconst 1, 1) := by decide +kernel
theorem dX11_jumper_66 : decode cX11_jumper 66 = .ok (.isub, 1) := by decide +kernel
theorem dX11_jumper_67 : decode cX11_jumper 67 = .ok (.imul, 1) := by decide +kernel
theorem dX11_jumper_68 : decode cX11_jumper 68 = .ok (.iadd, 1) := by decide +kernel
theorem dX11_jumper_69 : decode cX11_jumper 69 = .ok (.iload_n 1, 1) := by decide +kernel
theorem dX11_jumper_70 : decode cX11_jumper 70 = .ok (.iadd, 1) := by decide +kernel
theorem dX11_jumper_71 : decode cX11_jumper 71 = .ok (.iaload, 1) := by decide +kernel
theorem dX11_jumper_72 : decode cX11_jumper 72 = .ok (.ireturn, 1) := by decide +kernel
theorem dX11_flight_0 : decode cX11_flight 0 = .ok (.aload_n 0, 1) := by decide +kernel
theorem dX11_flight_1 : decode cX11_flight 1 = .ok (.iconst 0, 1) := by decide +kernel
theorem dX11_flight_2 : decode cX11_flight 2 = .ok (.putfield 63, 3) := by decide +kernel
theorem dX11_flight_5 : decode cX11_flight 5 = .ok (.aload_n 0, 1) := by decide +kernel
theorem dX11_flight_6 : decode cX11_flight 6 = .ok (.iload_n 1, 1) := by decide +kernel
theorem dX11_flight_7 : decode cX11_flight 7 = .ok (.invokevirtual 186, 3) := by decide +kernel
theorem dX11_flight_10 : decode cX11_flight 10 = .ok (.ifCond .eq 20, 3) := by decide +kernel
theorem dX11_flight_13 : decode cX11_flight 13 = .ok (.aload_n 0, 1) := by decide +kernel
theorem dX11_flight_14 : decode cX11_flight 14 = .ok (.iload_n 2, 1) := by decide +kernel
theorem dX11_flight_15 : decode cX11_flight 15 = .ok (.invokevirtual 179, 3) := by decide +kernel
theorem dX11_flight_18 : decode cX11_flight 18 = .ok (.ifCond .eq 12, 3) := by decide +kernel
theorem dX11_flight_21 : decode cX11_flight 21 = .ok (.aload_n 0, 1) := by decide +kernel
theorem dX11_flight_22 : decode cX11_flight 22 = .ok (.iload_n 1, 1) := by decide +kernel
theorem dX11_flight_23 : decode cX11_flight 23 = .ok (.iload_n 2, 1) := by decide +kernel
theorem dX11_flight_24 : decode cX11_flight 24 = .ok (.invokevirtual 144, 3) := by decide +kernel
theorem dX11_flight_27 : decode cX11_flight 27 = .ok (.goto 5, 3) := by decide +kernel
theorem dX11_flight_30 : decode cX11_flight 30 = .ok (.ldc 182, 2) := by decide +kernel
theorem dX11_flight_32 : decode cX11_flight 32 = .ok (.ireturn, 1) := by decide +kernel
theorem dX11_roll_0 : decode cX11_roll 0 = .ok (.aload_n 0, 1) := by decide +kernel
theorem dX11_roll_1 : decode cX11_roll 1 = .ok (.iconst 0, 1) := by decide +kernel
theorem dX11_roll_2 : decode cX11_roll 2 = .ok (.putfield 63, 3) := by decide +kernel
theorem dX11_roll_5 : decode cX11_roll 5 = .ok (.iload_n 2, 1) := by decide +kernel
theorem dX11_roll_6 : decode cX11_roll 6 = .ok (.iconst 0, 1) := by decide +kernel
theorem dX11_roll_7 : decode cX11_roll 7 = .ok (.iconst 3, 1) := by decide +kernel
theorem dX11_roll_8 : decode cX11_roll 8 = .ok (.invokestatic 66, 3) := by decide +kernel
theorem dX11_roll_11 : decode cX11_roll 11 = .ok (.ifCond .ne 6, 3) := by decide +kernel
theorem dX11_roll_14 : decode cX11_roll 14 = .ok (.ldc 70, 2) := by decide +kernel
theorem dX11_roll_16 : decode cX11_roll 16 = .ok (.ireturn, 1) := by decide +kernel
theorem dX11_roll_17 : decode cX11_roll 17 = .ok (.iload_n 1, 1) := by decide +kernel
theorem dX11_roll_18 : decode cX11_roll 18 = .ok (.iconst 0, 1) := by decide +kernel
theorem dX11_roll_19 : decode cX11_roll 19 = .ok (.aload_n 0, 1) := by decide +kernel
theorem dX11_roll_20 : decode cX11_roll 20 = .ok (.getfield 19, 3) := by decide +kernel
theorem dX11_roll_23 : decode cX11_roll 23 = .ok (.bipush 52, 2) := by decide +kernel
theorem dX11_roll_25 : decode cX11_roll 25 = .ok (.iaload, 1) := by decide +kernel
theorem dX11_roll_26 : decode cX11_roll 26 = .ok (.iconst 1, 1) := by decide +kernel
theorem dX11_roll_27 : decode cX11_roll 27 = .ok (.isub, 1) := by decide +kernel
theorem dX11_roll_28 : decode cX11_roll 28 = .ok (.invokestatic 66, 3) := by decide +kernel
theorem dX11_roll_31 : decode cX11_roll 31 = .ok (.ifCond .eq 19, 3) := by decide +kernel
theorem dX11_roll_34 : decode cX11_roll 34 = .ok (.aload_n 0, 1) := by decide +kernel
theorem dX11_roll_35 : decode cX11_roll 35 = .ok (.getfield 19, 3) := by decide +kernel
theorem dX11_roll_38 : decode cX11_roll 38 = .ok (.bipush 53, 2) := by decide +kernel
theorem dX11_roll_40 : decode cX11_roll 40 = .ok (.iconst 4, 1) := by decide +kernel
theorem dX11_roll_41 : decode cX11_roll 41 = .ok (.iload_n 1, 1) := by decide +kernel
theorem dX11_roll_42 : decode cX11_roll 42 = .ok (.imul, 1) := by decide +kernel
theorem dX11_roll_43 : decode cX11_roll 43 = .ok (.iadd, 1) := by decide +kernel
theorem dX11_roll_44 : decode cX11_roll 44 = .ok (.iload_n 2, 1) := by decide +kernel
theorem dX11_roll_45 : decode cX11_roll 45 = .ok (.iadd, 1) := by decide +kernel
theorem dX11_roll_46 : decode cX11_roll 46 = .ok (.iaload, 1) := by decide +kernel
theorem dX11_roll_47 : decode cX11_roll 47 = .ok (.goto 4, 3) := by decide +kernel
theorem dX11_roll_50 : decode cX11_roll 50 = .ok (.iconst (-1), 1) := by decide +kernel
theorem dX11_roll_51 : decode cX11_roll 51 = .ok (.ireturn, 1) := by decide +kernel
theorem dX11_notes_0 : decode cX11_notes 0 = .ok (.aload_n 0, 1) := by decide +kernel
theorem dX11_notes_1 : decode cX11_notes 1 = .ok (.getfield 132, 3) := by decide +kernel
theorem dX11_notes_4 : decode cX11_notes 4 = .ok (.bipush 16, 2) := by decide +kernel
theorem dX11_notes_6 : decode cX11_notes 6 = .ok (.if_icmp .ne 40, 3) := by decide +kernel
theorem dX11_notes_9 : decode cX11_notes 9 = .ok (.iconst 0, 1) := by decide +kernel
theorem dX11_notes_10 : decode cX11_notes 10 = .ok (.istore_n 1, 1) := by decide +kernel
theorem dX11_notes_11 : decode cX11_notes 11 = .ok (.iload_n 1, 1) := by decide +kernel
theorem dX11_notes_12 : decode cX11_notes 12 = .ok (.sipush 2010, 3) := by decide +kernel
theorem dX11_notes_15 : decode cX11_notes 15 = .ok (.if_icmp .ge 25, 3) := by decide +kernel
theorem dX11_notes_18 : decode cX11_notes 18 = .ok (.aload_n 0, 1) := by decide +kernel
theorem dX11_notes_19 : decode cX11_notes 19 = .ok (.getfield 29, 3) := by decide +kernel
theorem dX11_notes_22 : decode cX11_notes 22 = .ok (.iload_n 1, 1) := by decide +kernel
theorem dX11_notes_23 : decode cX11_notes 23 = .ok (.aload_n 0, 1) := by decide +kernel
theorem dX11_notes_24 : decode cX11_notes 24 = .ok (.getfield 29, 3) := by decide +kernel
theorem dX11_notes_27 : decode cX11_notes 27 = .ok (.iload_n 1, 1) := by decide +kernel
theorem dX11_notes_28 : decode cX11_notes 28 = .ok (.sipush 134, 3) := by decide +kernel
theorem dX11_notes_31 : decode cX11_notes 31 = .ok (.iadd, 1) := by decide +kernel
theorem dX11_notes_32 : decode cX11_notes 32 = .ok (.iaload, 1) := by decide +kernel
theorem dX11_notes_33 : decode cX11_notes 33 = .ok (.iastore, 1) := by decide +kernel
theorem dX11_notes_34 : decode cX11_notes 34 = .ok (.iinc 1 1, 3) := by decide +kernel
theorem dX11_notes_37 : decode cX11_notes 37 = .ok (.goto (-26), 3) := by decide +kernel
theorem dX11_notes_40 : decode cX11_notes 40 = .ok (.aload_n 0, 1) := by decide +kernel
theorem dX11_notes_41 : decode cX11_notes 41 = .ok (.bipush 15, 2) := by decide +kernel
theorem dX11_notes_43 : decode cX11_notes 43 = .ok (.putfield 132, 3) := by decide +kernel
theorem dX11_notes_46 : decode cX11_notes 46 = .ok (.iconst 0, 1) := by decide +kernel
theorem dX11_notes_47 : decode cX11_notes 47 = .ok (.istore_n 1, 1) := by decide +kernel
theorem dX11_notes_48 : decode cX11_notes 48 = .ok (.iload_n 1, 1) := by decide +kernel
theorem dX11_notes_49 : decode cX11_notes 49 = .ok (.sipush 134, 3) := by decide +kernel
theorem dX11_notes_52 : decode cX11_notes 52 = .ok (.if_icmp .ge 30, 3) := by decide +kernel
theorem dX11_notes_55 : decode cX11_notes 55 = .ok (.aload_n 0, 1) := by decide +kernel
theorem dX11_notes_56 : decode cX11_notes 56 = .ok (.getfield 29, 3) := by decide +kernel
theorem dX11_notes_59 : decode cX11_notes 59 = .ok (.sipush 134, 3) := by decide +kernel
theorem dX11_notes_62 : decode cX11_notes 62 = .ok (.aload_n 0, 1) := by decide +kernel
theorem dX11_notes_63 : decode cX11_notes 63 = .ok (.getfield 132, 3) := by decide +kernel
theorem dX11_notes_66 : decode cX11_notes 66 = .ok (.imul, 1) := by decide +kernel
theorem dX11_notes_67 : decode cX11_notes 67 = .ok (.iload_n 1, 1) := by decide +kernel
theorem dX11_notes_68 : decode cX11_notes 68 = .ok (.iadd, 1) := by decide +kernel
theorem dX11_notes_69 : decode cX11_notes 69 = .ok (.aload_n 0, 1) := by decide +kernel
theorem dX11_notes_70 : decode cX11_notes 70 = .ok (.getfield 19, 3) := by decide +kernel
theorem dX11_notes_73 : decode cX11_notes 73 = .ok (.iload_n 1, 1) := by decide +kernel
theorem dX11_notes_74 : decode cX11_notes 74 = .ok (.iaload, 1) := by decide +kernel
theorem dX11_notes_75 : decode cX11_notes 75 = .ok (.iastore, 1) := by decide +kernel
theorem dX11_notes_76 : decode cX11_notes 76 = .ok (.iinc 1 1, 3) := by decide +kernel
theorem dX11_notes_79 : decode cX11_notes 79 = .ok (.goto (-31), 3) := by decide +kernel
theorem dX11_notes_82 : decode cX11_notes 82 = .ok (.aload_n 0, 1) := by decide +kernel
theorem dX11_notes_83 : decode cX11_notes 83 = .ok (.dup, 1) := by decide +kernel
theorem dX11_notes_84 : decode cX11_notes 84 = .ok (.getfield 132, 3) := by decide +kernel
theorem dX11_notes_87 : decode cX11_notes 87 = .ok (.iconst 1, 1) := by decide +kernel
theorem dX11_notes_88 : decode cX11_notes 88 = .ok (.iadd, 1) := by decide +kernel
theorem dX11_notes_89 : decode cX11_notes 89 = .ok (.putfield 132, 3) := by decide +kernel
theorem dX11_notes_92 : decode cX11_notes 92 = .ok (.return_, 1) := by decide +kernel
theorem dX11_counts_0 : decode cX11_counts 0 = .ok (.aload_n 0, 1) := by decide +kernel
theorem dX11_counts_1 : decode cX11_counts 1 = .ok (.getfield 19, 3) := by decide +kernel
theorem dX11_counts_4 : decode cX11_counts 4 = .ok (.iload_n 1, 1) := by decide +kernel
theorem dX11_counts_5 : decode cX11_counts 5 = .ok (.dup2, 1) := by decide +kernel
theorem dX11_counts_6 : decode cX11_counts 6 = .ok (.iaload, 1) := by decide +kernel
theorem dX11_counts_7 : decode cX11_counts 7 = .ok (.aload_n 0, 1) := by decide +kernel
theorem dX11_counts_8 : decode cX11_counts 8 = .ok (.getfield 19, 3) := by decide +kernel
theorem dX11_counts_11 : decode cX11_counts 11 = .ok (.iload_n 1, 1) := by decide +kernel
theorem dX11_counts_12 : decode cX11_counts 12 = .ok (.iaload, 1) := by decide +kernel
theorem dX11_counts_13 : decode cX11_counts 13 = .ok (.ldc 192, 2) := by decide +kernel
theorem dX11_counts_15 : decode cX11_counts 15 = .ok (.if_icmp .ge 7, 3) := by decide +kernel
theorem dX11_counts_18 : decode cX11_counts 18 = .ok (.iconst 1, 1) := by decide +kernel
theorem dX11_counts_19 : decode cX11_counts 19 = .ok (.goto 4, 3) := by decide +kernel
theorem dX11_counts_22 : decode cX11_counts 22 = .ok (.iconst 0, 1) := by decide +kernel
theorem dX11_counts_23 : decode cX11_counts 23 = .ok (.iadd, 1) := by decide +kernel
theorem dX11_counts_24 : decode cX11_counts 24 = .ok (.iastore, 1) := by decide +kernel
theorem dX11_counts_25 : decode cX11_counts 25 = .ok (.return_, 1) := by decide +kernel
theorem dX11_beyond_0 : decode cX11_beyond 0 = .ok (.aload_n 0, 1) := by decide +kernel
theorem dX11_beyond_1 : decode cX11_beyond 1 = .ok (.getfield 16, 3) := by decide +kernel
theorem dX11_beyond_4 : decode cX11_beyond 4 = .ok (.iconst 4, 1) := by decide +kernel
theorem dX11_beyond_5 : decode cX11_beyond 5 = .ok (.iload_n 1, 1) := by decide +kernel
theorem dX11_beyond_6 : decode cX11_beyond 6 = .ok (.iadd, 1) := by decide +kernel
theorem dX11_beyond_7 : decode cX11_beyond 7 = .ok (.iaload, 1) := by decide +kernel
theorem dX11_beyond_8 : decode cX11_beyond 8 = .ok (.iload_n 2, 1) := by decide +kernel
theorem dX11_beyond_9 : decode cX11_beyond 9 = .ok (.if_icmp .ne 15, 3) := by decide +kernel
theorem dX11_beyond_12 : decode cX11_beyond 12 = .ok (.aload_n 0, 1) := by decide +kernel
theorem dX11_beyond_13 : decode cX11_beyond 13 = .ok (.getfield 16, 3) := by decide +kernel
theorem dX11_beyond_16 : decode cX11_beyond 16 = .ok (.bipush 13, 2) := by decide +kernel
theorem dX11_beyond_18 : decode cX11_beyond 18 = .ok (.iload_n 1, 1) := by decide +kernel
theorem dX11_beyond_19 : decode cX11_beyond 19 = .ok (.iadd, 1) := by decide +kernel
theorem dX11_beyond_20 : decode cX11_beyond 20 = .ok (.iaload, 1) := by decide +kernel
theorem dX11_beyond_21 : decode cX11_beyond 21 = .ok (.goto 28, 3) := by decide +kernel
theorem dX11_beyond_24 : decode cX11_beyond 24 = .ok (.aload_n 0, 1) := by decide +kernel
theorem dX11_beyond_25 : decode cX11_beyond 25 = .ok (.getfield 16, 3) := by decide +kernel
theorem dX11_beyond_28 : decode cX11_beyond 28 = .ok (.bipush 13, 2) := by decide +kernel
theorem dX11_beyond_30 : decode cX11_beyond 30 = .ok (.iload_n 1, 1) := by decide +kernel
theorem dX11_beyond_31 : decode cX11_beyond 31 = .ok (.iadd, 1) := by decide +kernel
theorem dX11_beyond_32 : decode cX11_beyond 32 = .ok (.iaload, 1) := by decide +kernel
theorem dX11_beyond_33 : decode cX11_beyond 33 = .ok (.iload_n 2, 1) := by decide +kernel
theorem dX11_beyond_34 : decode cX11_beyond 34 = .ok (.if_icmp .ne 14, 3) := by decide +kernel
theorem dX11_beyond_37 : decode cX11_beyond 37 = .ok (.aload_n 0, 1) := by decide +kernel
theorem dX11_beyond_38 : decode cX11_beyond 38 = .ok (.getfield 16, 3) := by decide +kernel
theorem dX11_beyond_41 : decode cX11_beyond 41 = .ok (.iconst 4, 1) := by decide +kernel
theorem dX11_beyond_42 : decode cX11_beyond 42 = .ok (.iload_n 1, 1) := by decide +kernel
theorem dX11_beyond_43 : decode cX11_beyond 43 = .ok (.iadd, 1) := by decide +kernel
theorem dX11_beyond_44 : decode cX11_beyond 44 = .ok (.iaload, 1) := by decide +kernel
theorem dX11_beyond_45 : decode cX11_beyond 45 = .ok (.goto 4, 3) := by decide +kernel
theorem dX11_beyond_48 : decode cX11_beyond 48 = .ok (.iconst (-1), 1) := by decide +kernel
theorem dX11_beyond_49 : decode cX11_beyond 49 = .ok (.ireturn, 1) := by decide +kernel
theorem dX11_leaps_0 : decode cX11_leaps 0 = .ok (.iload_n 3, 1) := by decide +kernel
theorem dX11_leaps_1 : decode cX11_leaps 1 = .ok (.ifCond .ne 16, 3) := by decide +kernel
theorem dX11_leaps_4 : decode cX11_leaps 4 = .ok (.aload_n 0, 1) := by decide +kernel
theorem dX11_leaps_5 : decode cX11_leaps 5 = .ok (.iload_n 1, 1) := by decide +kernel
theorem dX11_leaps_6 : decode cX11_leaps 6 = .ok (.iload_n 2, 1) := by decide +kernel
theorem dX11_leaps_7 : decode cX11_leaps 7 = .ok (.invokevirtual 147, 3) := by decide +kernel
theorem dX11_leaps_10 : decode cX11_leaps 10 = .ok (.ifCond .eq 7, 3) := by decide +kernel
theorem dX11_leaps_13 : decode cX11_leaps 13 = .ok (.iconst 1, 1) := by decide +kernel
theorem dX11_leaps_14 : decode cX11_leaps 14 = .ok (.goto 4, 3) := by decide +kernel
theorem dX11_leaps_17 : decode cX11_leaps 17 = .ok (.iconst 0, 1) := by decide +kernel
theorem dX11_leaps_18 : decode cX11_leaps 18 = .ok (.istore 4, 2) := by decide +kernel
theorem dX11_leaps_20 : decode cX11_leaps 20 = .ok (.aload_n 0, 1) := by decide +kernel
theorem dX11_leaps_21 : decode cX11_leaps 21 = .ok (.iload_n 2, 1) := by decide +kernel
theorem dX11_leaps_22 : decode cX11_leaps 22 = .ok (.invokevirtual 138, 3) := by decide +kernel
theorem dX11_leaps_25 : decode cX11_leaps 25 = .ok (.istore 5, 2) := by decide +kernel
theorem dX11_leaps_27 : decode cX11_leaps 27 = .ok (.bipush 79, 2) := by decide +kernel
theorem dX11_leaps_29 : decode cX11_leaps 29 = .ok (.istore 6, 2) := by decide +kernel
theorem dX11_leaps_31 : decode cX11_leaps 31 = .ok (.iload 6, 2) := by decide +kernel
theorem dX11_leaps_33 : decode cX11_leaps 33 = .ok (.iconst 3, 1) := by decide +kernel
theorem dX11_leaps_34 : decode cX11_leaps 34 = .ok (.if_icmp .le 31, 3) := by decide +kernel
theorem dX11_leaps_37 : decode cX11_leaps 37 = .ok (.aload_n 0, 1) := by decide +kernel
theorem dX11_leaps_38 : decode cX11_leaps 38 = .ok (.getfield 19, 3) := by decide +kernel
theorem dX11_leaps_41 : decode cX11_leaps 41 = .ok (.bipush 53, 2) := by decide +kernel
theorem dX11_leaps_43 : decode cX11_leaps 43 = .ok (.iload 6, 2) := by decide +kernel
theorem dX11_leaps_45 : decode cX11_leaps 45 = .ok (.iadd, 1) := by decide +kernel
theorem dX11_leaps_46 : decode cX11_leaps 46 = .ok (.aload_n 0, 1) := by decide +kernel
theorem dX11_leaps_47 : decode cX11_leaps 47 = .ok (.getfield 19, 3) := by decide +kernel
theorem dX11_leaps_50 : decode cX11_leaps 50 = .ok (.bipush 53, 2) := by decide +kernel
theorem dX11_leaps_52 : decode cX11_leaps 52 = .ok (.iload 6, 2) := by decide +kernel
theorem dX11_leaps_54 : decode cX11_leaps 54 = .ok (.iadd, 1) := by decide +kernel
theorem dX11_leaps_55 : decode cX11_leaps 55 = .ok (.iconst 4, 1) := by decide +kernel
theorem dX11_leaps_56 : decode cX11_leaps 56 = .ok (.isub, 1) := by decide +kernel
theorem dX11_leaps_57 : decode cX11_leaps 57 = .ok (.iaload, 1) := by decide +kernel
theorem dX11_leaps_58 : decode cX11_leaps 58 = .ok (.iastore, 1) := by decide +kernel
theorem dX11_leaps_59 : decode cX11_leaps 59 = .ok (.iinc 6 (-1), 3) := by decide +kernel
theorem dX11_leaps_62 : decode cX11_leaps 62 = .ok (.goto (-31), 3) := by decide +kernel
theorem dX11_leaps_65 : decode cX11_leaps 65 = .ok (.aload_n 0, 1) := by decide +kernel
theorem dX11_leaps_66 : decode cX11_leaps 66 = .ok (.getfield 19, 3) := by decide +kernel
theorem dX11_leaps_69 : decode cX11_leaps 69 = .ok (.bipush 53, 2) := by decide +kernel
theorem dX11_leaps_71 : decode cX11_leaps 71 = .ok (.aload_n 0, 1) := by decide +kernel
theorem dX11_leaps_72 : decode cX11_leaps 72 = .ok (.getfield 19, 3) := by decide +kernel
theorem dX11_leaps_75 : decode cX11_leaps 75 = .ok (.bipush 51, 2) := by decide +kernel
theorem dX11_leaps_77 : decode cX11_leaps 77 = .ok (.iaload, 1) := by decide +kernel
theorem dX11_leaps_78 : decode cX11_leaps 78 = .ok (.iastore, 1) := by decide +kernel
theorem dX11_leaps_79 : decode cX11_leaps 79 = .ok (.aload_n 0, 1) := by decide +kernel
theorem dX11_leaps_80 : decode cX11_leaps 80 = .ok (.getfield 19, 3) := by decide +kernel
theorem dX11_leaps_83 : decode cX11_leaps 83 = .ok (.bipush 54, 2) := by decide +kernel
theorem dX11_leaps_85 : decode cX11_leaps 85 = .ok (.iload_n 1, 1) := by decide +kernel
theorem dX11_leaps_86 : decode cX11_leaps 86 = .ok (.iastore, 1) := by decide +kernel
theorem dX11_leaps_87 : decode cX11_leaps 87 = .ok (.aload_n 0, 1) := by decide +kernel
theorem dX11_leaps_88 : decode cX11_leaps 88 = .ok (.getfield 19, 3) := by decide +kernel
theorem dX11_leaps_91 : decode cX11_leaps 91 = .ok (.bipush 55, 2) := by decide +kernel
theorem dX11_leaps_93 : decode cX11_leaps 93 = .ok (.iload_n 2, 1) := by decide +kernel
theorem dX11_leaps_94 : decode cX11_leaps 94 = .ok (.iastore, 1) := by decide +kernel
theorem dX11_leaps_95 : decode cX11_leaps 95 = .ok (.aload_n 0, 1) := by decide +kernel
theorem dX11_leaps_96 : decode cX11_leaps 96 = .ok (.getfield 19, 3) := by decide +kernel
theorem dX11_leaps_99 : decode cX11_leaps 99 = .ok (.bipush 56, 2) := by decide +kernel
theorem dX11_leaps_101 : decode cX11_leaps 101 = .ok (.iload 4, 2) := by decide +kernel
theorem dX11_leaps_103 : decode cX11_leaps 103 = .ok (.ifCond .eq 7, 3) := by decide +kernel
theorem dX11_leaps_106 : decode cX11_leaps 106 = .ok (.iconst 1, 1) := by decide +kernel
theorem dX11_leaps_107 : decode cX11_leaps 107 = .ok (.goto 4, 3) := by decide +kernel
theorem dX11_leaps_110 : decode cX11_leaps 110 = .ok (.iconst 0, 1) := by decide +kernel
theorem dX11_leaps_111 : decode cX11_leaps 111 = .ok (.iastore, 1) := by decide +kernel
theorem dX11_leaps_112 : decode cX11_leaps 112 = .ok (.aload_n 0, 1) := by decide +kernel
theorem dX11_leaps_113 : decode cX11_leaps 113 = .ok (.getfield 19, 3) := by decide +kernel
theorem dX11_leaps_116 : decode cX11_leaps 116 = .ok (.bipush 52, 2) := by decide +kernel
theorem dX11_leaps_118 : decode cX11_leaps 118 = .ok (.dup2, 1) := by decide +kernel
theorem dX11_leaps_119 : decode cX11_leaps 119 = .ok (.iaload, 1) := by decide +kernel
theorem dX11_leaps_120 : decode cX11_leaps 120 = .ok (.aload_n 0, 1) := by decide +kernel
theorem dX11_leaps_121 : decode cX11_leaps 121 = .ok (.getfield 19, 3) := by decide +kernel
theorem dX11_leaps_124 : decode cX11_leaps 124 = .ok (.bipush 52, 2) := by decide +kernel
theorem dX11_leaps_126 : decode cX11_leaps 126 = .ok (.iaload, 1) := by decide +kernel
theorem dX11_leaps_127 : decode cX11_leaps 127 = .ok (.bipush 20, 2) := by decide +kernel
theorem dX11_leaps_129 : decode cX11_leaps 129 = .ok (.if_icmp .ge 7, 3) := by decide +kernel
theorem dX11_leaps_132 : decode cX11_leaps 132 = .ok (.iconst 1, 1) := by decide +kernel
theorem dX11_leaps_133 : decode cX11_leaps 133 = .ok (.goto 4, 3) := by decide +kernel
theorem dX11_leaps_136 : decode cX11_leaps 136 = .ok (.iconst 0, 1) := by decide +kernel
theorem dX11_leaps_137 : decode cX11_leaps 137 = .ok (.iadd, 1) := by decide +kernel
theorem dX11_leaps_138 : decode cX11_leaps 138 = .ok (.iastore, 1) := by decide +kernel
theorem dX11_leaps_139 : decode cX11_leaps 139 = .ok (.iload 4, 2) := by decide +kernel
theorem dX11_leaps_141 : decode cX11_leaps 141 = .ok (.ifCond .eq 64, 3) := by decide +kernel
theorem dX11_leaps_144 : decode cX11_leaps 144 = .ok (.aload_n 0, 1) := by decide +kernel
theorem dX11_leaps_145 : decode cX11_leaps 145 = .ok (.getfield 19, 3) := by decide +kernel
theorem dX11_leaps_148 : decode cX11_leaps 148 = .ok (.iconst 0, 1) := by decide +kernel
theorem dX11_leaps_149 : decode cX11_leaps 149 = .ok (.iload_n 1, 1) := by decide +kernel
theorem dX11_leaps_150 : decode cX11_leaps 150 = .ok (.iadd, 1) := by decide +kernel
theorem dX11_leaps_151 : decode cX11_leaps 151 = .ok (.aload_n 0, 1) := by decide +kernel
theorem dX11_leaps_152 : decode cX11_leaps 152 = .ok (.iload_n 2, 1) := by decide +kernel
theorem dX11_leaps_153 : decode cX11_leaps 153 = .ok (.aload_n 0, 1) := by decide +kernel
theorem dX11_leaps_154 : decode cX11_leaps 154 = .ok (.getfield 19, 3) := by decide +kernel
theorem dX11_leaps_157 : decode cX11_leaps 157 = .ok (.iconst 0, 1) := by decide +kernel
theorem dX11_leaps_158 : decode cX11_leaps 158 = .ok (.iload_n 1, 1) := by decide +kernel
theorem dX11_leaps_159 : decode cX11_leaps 159 = .ok (.iadd, 1) := by decide +kernel
theorem dX11_leaps_160 : decode cX11_leaps 160 = .ok (.iaload, 1) := by decide +kernel
theorem dX11_leaps_161 : decode cX11_leaps 161 = .ok (.invokevirtual 193, 3) := by decide +kernel
theorem dX11_leaps_164 : decode cX11_leaps 164 = .ok (.iastore, 1) := by decide +kernel
theorem dX11_leaps_165 : decode cX11_leaps 165 = .ok (.aload_n 0, 1) := by decide +kernel
theorem dX11_leaps_166 : decode cX11_leaps 166 = .ok (.getfield 19, 3) := by decide +kernel
theorem dX11_leaps_169 : decode cX11_leaps 169 = .ok (.bipush 6, 2) := by decide +kernel
theorem dX11_leaps_171 : decode cX11_leaps 171 = .ok (.iload_n 1, 1) := by decide +kernel
theorem dX11_leaps_172 : decode cX11_leaps 172 = .ok (.iadd, 1) := by decide +kernel
theorem dX11_leaps_173 : decode cX11_leaps 173 = .ok (.dup2, 1) := by decide +kernel
theorem dX11_leaps_174 : decode cX11_leaps 174 = .ok (.iaload, 1) := by decide +kernel
theorem dX11_leaps_175 : decode cX11_leaps 175 = .ok (.aload_n 0, 1) := by decide +kernel
theorem dX11_leaps_176 : decode cX11_leaps 176 = .ok (.getfield 19, 3) := by decide +kernel
theorem dX11_leaps_179 : decode cX11_leaps 179 = .ok (.bipush 6, 2) := by decide +kernel
theorem dX11_leaps_181 : decode cX11_leaps 181 = .ok (.iload_n 1, 1) := by decide +kernel
theorem dX11_leaps_182 : decode cX11_leaps 182 = .ok (.iadd, 1) := by decide +kernel
theorem dX11_leaps_183 : decode cX11_leaps 183 = .ok (.iaload, 1) := by decide +kernel
theorem dX11_leaps_184 : decode cX11_leaps 184 = .ok (.ifCond .le 7, 3) := by decide +kernel
theorem dX11_leaps_187 : decode cX11_leaps 187 = .ok (.iconst 1, 1) := by decide +kernel
theorem dX11_leaps_188 : decode cX11_leaps 188 = .ok (.goto 4, 3) := by decide +kernel
theorem dX11_leaps_191 : decode cX11_leaps 191 = .ok (.iconst 0, 1) := by decide +kernel
theorem dX11_leaps_192 : decode cX11_leaps 192 = .ok (.isub, 1) := by decide +kernel
theorem dX11_leaps_193 : decode cX11_leaps 193 = .ok (.iastore, 1) := by decide +kernel
theorem dX11_leaps_194 : decode cX11_leaps 194 = .ok (.aload_n 0, 1) := by decide +kernel
theorem dX11_leaps_195 : decode cX11_leaps 195 = .ok (.bipush 12, 2) := by decide +kernel
theorem dX11_leaps_197 : decode cX11_leaps 197 = .ok (.iload_n 1, 1) := by decide +kernel
theorem dX11_leaps_198 : decode cX11_leaps 198 = .ok (.iadd, 1) := by decide +kernel
theorem dX11_leaps_199 : decode cX11_leaps 199 = .ok (.invokevirtual 196, 3) := by decide +kernel
theorem dX11_leaps_202 : decode cX11_leaps 202 = .ok (.goto 50, 3) := by decide +kernel
theorem dX11_leaps_205 : decode cX11_leaps 205 = .ok (.aload_n 0, 1) := by decide +kernel
theorem dX11_leaps_206 : decode cX11_leaps 206 = .ok (.getfield 19, 3) := by decide +kernel
theorem dX11_leaps_209 : decode cX11_leaps 209 = .ok (.bipush 6, 2) := by decide +kernel
theorem dX11_leaps_211 : decode cX11_leaps 211 = .ok (.iload_n 1, 1) := by decide +kernel
theorem dX11_leaps_212 : decode cX11_leaps 212 = .ok (.iadd, 1) := by decide +kernel
theorem dX11_leaps_213 : decode cX11_leaps 213 = .ok (.aload_n 0, 1) := by decide +kernel
theorem dX11_leaps_214 : decode cX11_leaps 214 = .ok (.getfield 19, 3) := by decide +kernel
theorem dX11_leaps_217 : decode cX11_leaps 217 = .ok (.bipush 6, 2) := by decide +kernel
theorem dX11_leaps_219 : decode cX11_leaps 219 = .ok (.iload_n 1, 1) := by decide +kernel
theorem dX11_leaps_220 : decode cX11_leaps 220 = .ok (.iadd, 1) := by decide +kernel
theorem dX11_leaps_221 : decode cX11_leaps 221 = .ok (.iaload, 1) := by decide +kernel
theorem dX11_leaps_222 : decode cX11_leaps 222 = .ok (.bipush 28, 2) := by decide +kernel
theorem dX11_leaps_224 : decode cX11_leaps 224 = .ok (.if_icmp .le 8, 3) := by decide +kernel
theorem dX11_leaps_227 : decode cX11_leaps 227 = .ok (.bipush 30, 2) := by decide +kernel
theorem dX11_leaps_229 : decode cX11_leaps 229 = .ok (.goto 14, 3) := by decide +kernel
theorem dX11_leaps_232 : decode cX11_leaps 232 = .ok (.aload_n 0, 1) := by decide +kernel
theorem dX11_leaps_233 : decode cX11_leaps 233 = .ok (.getfield 19, 3) := by decide +kernel
theorem dX11_leaps_236 : decode cX11_leaps 236 = .ok (.bipush 6, 2) := by decide +kernel
theorem dX11_leaps_238 : decode cX11_leaps 238 = .ok (.iload_n 1, 1) := by decide +kernel
theorem dX11_leaps_239 : decode cX11_leaps 239 = .ok (.iadd, 1) := by decide +kernel
theorem dX11_leaps_240 : decode cX11_leaps 240 = .ok (.iaload, 1) := by decide +kernel
theorem dX11_leaps_241 : decode cX11_leaps 241 = .ok (.iconst 2, 1) := by decide +kernel
theorem dX11_leaps_242 : decode cX11_leaps 242 = .ok (.iadd, 1) := by decide +kernel
theorem dX11_leaps_243 : decode cX11_leaps 243 = .ok (.iastore, 1) := by decide +kernel
theorem dX11_leaps_244 : decode cX11_leaps 244 = .ok (.aload_n 0, 1) := by decide +kernel
theorem dX11_leaps_245 : decode cX11_leaps 245 = .ok (.bipush 18, 2) := by decide +kernel
theorem dX11_leaps_247 : decode cX11_leaps 247 = .ok (.iload_n 1, 1) := by decide +kernel
theorem dX11_leaps_248 : decode cX11_leaps 248 = .ok (.iadd, 1) := by decide +kernel
theorem dX11_leaps_249 : decode cX11_leaps 249 = .ok (.invokevirtual 196, 3) := by decide +kernel
theorem dX11_leaps_252 : decode cX11_leaps 252 = .ok (.iload 5, 2) := by decide +kernel
theorem dX11_leaps_254 : decode cX11_leaps 254 = .ok (.iconst (-1), 1) := by decide +kernel
theorem dX11_leaps_255 : decode cX11_leaps 255 = .ok (.if_icmp .eq 36, 3) := by decide +kernel
theorem dX11_leaps_258 : decode cX11_leaps 258 = .ok (.aload_n 0, 1) := by decide +kernel
theorem dX11_leaps_259 : decode cX11_leaps 259 = .ok (.getfield 19, 3) := by decide +kernel
theorem dX11_leaps_262 : decode cX11_leaps 262 = .ok (.bipush 33, 2) := by decide +kernel
theorem dX11_leaps_264 : decode cX11_leaps 264 = .ok (.iload 5, 2) := by decide +kernel
theorem dX11_leaps_266 : decode cX11_leaps 266 = .ok (.iadd, 1) := by decide +kernel
theorem dX11_leaps_267 : decode cX11_leaps 267 = .ok (.dup2, 1) := by decide +kernel
theorem dX11_leaps_268 : decode cX11_leaps 268 = .ok (.iaload, 1) := by decide +kernel
theorem dX11_leaps_269 : decode cX11_leaps 269 = .ok (.aload_n 0, 1) := by decide +kernel
theorem dX11_leaps_270 : decode cX11_leaps 270 = .ok (.getfield 19, 3) := by decide +kernel
theorem dX11_leaps_273 : decode cX11_leaps 273 = .ok (.bipush 33, 2) := by decide +kernel
theorem dX11_leaps_275 : decode cX11_leaps 275 = .ok (.iload 5, 2) := by decide +kernel
theorem dX11_leaps_277 : decode cX11_leaps 277 = .ok (.iadd, 1) := by decide +kernel
theorem dX11_leaps_278 : decode cX11_leaps 278 = .ok (.iaload, 1) := by decide +kernel
theorem dX11_leaps_279 : decode cX11_leaps 279 = .ok (.bipush 99, 2) := by decide +kernel
theorem dX11_leaps_281 : decode cX11_leaps 281 = .ok (.if_icmp .ge 7, 3) := by decide +kernel
theorem dX11_leaps_284 : decode cX11_leaps 284 = .ok (.iconst 1, 1) := by decide +kernel
theorem dX11_leaps_285 : decode cX11_leaps 285 = .ok (.goto 4, 3) := by decide +kernel
theorem dX11_leaps_288 : decode cX11_leaps 288 = .ok (.iconst 0, 1) := by decide +kernel
theorem dX11_leaps_289 : decode cX11_leaps 289 = .ok (.iadd, 1) := by decide +kernel
theorem dX11_leaps_290 : decode cX11_leaps 290 = .ok (.iastore, 1) := by decide +kernel
theorem dX11_leaps_291 : decode cX11_leaps 291 = .ok (.iload 4, 2) := by decide +kernel
theorem dX11_leaps_293 : decode cX11_leaps 293 = .ok (.ifCond .eq 7, 3) := by decide +kernel
theorem dX11_leaps_296 : decode cX11_leaps 296 = .ok (.iconst 1, 1) := by decide +kernel
theorem dX11_leaps_297 : decode cX11_leaps 297 = .ok (.goto 4, 3) := by decide +kernel
theorem dX11_leaps_300 : decode cX11_leaps 300 = .ok (.iconst 0, 1) := by decide +kernel
theorem dX11_leaps_301 : decode cX11_leaps 301 = .ok (.ireturn, 1) := by decide +kernel
theorem dX11_leap_0 : decode cX11_leap 0 = .ok (.aload_n 0, 1) := by decide +kernel
theorem dX11_leap_1 : decode cX11_leap 1 = .ok (.iconst 0, 1) := by decide +kernel
theorem dX11_leap_2 : decode cX11_leap 2 = .ok (.putfield 63, 3) := by decide +kernel
theorem dX11_leap_5 : decode cX11_leap 5 = .ok (.aload_n 0, 1) := by decide +kernel
theorem dX11_leap_6 : decode cX11_leap 6 = .ok (.iload_n 1, 1) := by decide +kernel
theorem dX11_leap_7 : decode cX11_leap 7 = .ok (.invokevirtual 186, 3) := by decide +kernel
theorem dX11_leap_10 : decode cX11_leap 10 = .ok (.ifCond .eq 11, 3) := by decide +kernel
theorem dX11_leap_13 : decode cX11_leap 13 = .ok (.aload_n 0, 1) := by decide +kernel
theorem dX11_leap_14 : decode cX11_leap 14 = .ok (.iload_n 2, 1) := by decide +kernel
theorem dX11_leap_15 : decode cX11_leap 15 = .ok (.invokevirtual 179, 3) := by decide +kernel
theorem dX11_leap_18 : decode cX11_leap 18 = .ok (.ifCond .ne 6, 3) := by decide +kernel
theorem dX11_leap_21 : decode cX11_leap 21 = .ok (.ldc 182, 2) := by decide +kernel
theorem dX11_leap_23 : decode cX11_leap 23 = .ok (.ireturn, 1) := by decide +kernel
theorem dX11_leap_24 : decode cX11_leap 24 = .ok (.aload_n 0, 1) := by decide +kernel
theorem dX11_leap_25 : decode cX11_leap 25 = .ok (.iload_n 2, 1) := by decide +kernel
theorem dX11_leap_26 : decode cX11_leap 26 = .ok (.aload_n 0, 1) := by decide +kernel
theorem dX11_leap_27 : decode cX11_leap 27 = .ok (.getfield 19, 3) := by decide +kernel
theorem dX11_leap_30 : decode cX11_leap 30 = .ok (.iconst 0, 1) := by decide +kernel
theorem dX11_leap_31 : decode cX11_leap 31 = .ok (.iload_n 1, 1) := by decide +kernel
theorem dX11_leap_32 : decode cX11_leap 32 = .ok (.iadd, 1) := by decide +kernel
theorem dX11_leap_33 : decode cX11_leap 33 = .ok (.iaload, 1) := by decide +kernel
theorem dX11_leap_34 : decode cX11_leap 34 = .ok (.invokevirtual 193, 3) := by decide +kernel
theorem dX11_leap_37 : decode cX11_leap 37 = .ok (.iconst (-1), 1) := by decide +kernel
theorem dX11_leap_38 : decode cX11_leap 38 = .ok (.if_icmp .ne 6, 3) := by decide +kernel
theorem dX11_leap_41 : decode cX11_leap 41 = .ok (.ldc 199, 2) := by decide +kernel
theorem dX11_leap_43 : decode cX11_leap 43 = .ok (.ireturn, 1) := by decide +kernel
theorem dX11_leap_44 : decode cX11_leap 44 = .ok (.aload_n 0, 1) := by decide +kernel
theorem dX11_leap_45 : decode cX11_leap 45 = .ok (.invokevirtual 200, 3) := by decide +kernel
theorem dX11_leap_48 : decode cX11_leap 48 = .ok (.aload_n 0, 1) := by decide +kernel
theorem dX11_leap_49 : decode cX11_leap 49 = .ok (.iload_n 1, 1) := by decide +kernel
theorem dX11_leap_50 : decode cX11_leap 50 = .ok (.iload_n 2, 1) := by decide +kernel
theorem dX11_leap_51 : decode cX11_leap 51 = .ok (.iconst 0, 1) := by decide +kernel
theorem dX11_leap_52 : decode cX11_leap 52 = .ok (.invokevirtual 203, 3) := by decide +kernel
theorem dX11_leap_55 : decode cX11_leap 55 = .ok (.ireturn, 1) := by decide +kernel
theorem dX11_post_0 : decode cX11_post 0 = .ok (.aload_n 0, 1) := by decide +kernel
theorem dX11_post_1 : decode cX11_post 1 = .ok (.iconst 0, 1) := by decide +kernel
theorem dX11_post_2 : decode cX11_post 2 = .ok (.putfield 63, 3) := by decide +kernel
theorem dX11_post_5 : decode cX11_post 5 = .ok (.aload_n 0, 1) := by decide +kernel
theorem dX11_post_6 : decode cX11_post 6 = .ok (.iload_n 1, 1) := by decide +kernel
theorem dX11_post_7 : decode cX11_post 7 = .ok (.invokevirtual 183, 3) := by decide +kernel
theorem dX11_post_10 : decode cX11_post 10 = .ok (.ifCond .eq 11, 3) := by decide +kernel
theorem dX11_post_13 : decode cX11_post 13 = .ok (.aload_n 0, 1) := by decide +kernel
theorem dX11_post_14 : decode cX11_post 14 = .ok (.iload_n 2, 1) := by decide +kernel
theorem dX11_post_15 : decode cX11_post 15 = .ok (.invokevirtual 179, 3) := by decide +kernel
theorem dX11_post_18 : decode cX11_post 18 = .ok (.ifCond .ne 6, 3) := by decide +kernel
theorem dX11_post_21 : decode cX11_post 21 = .ok (.ldc 182, 2) := by decide +kernel
theorem dX11_post_23 : decode cX11_post 23 = .ok (.ireturn, 1) := by decide +kernel
theorem dX11_post_24 : decode cX11_post 24 = .ok (.aload_n 0, 1) := by decide +kernel
theorem dX11_post_25 : decode cX11_post 25 = .ok (.iload_n 2, 1) := by decide +kernel
theorem dX11_post_26 : decode cX11_post 26 = .ok (.invokevirtual 138, 3) := by decide +kernel
theorem dX11_post_29 : decode cX11_post 29 = .ok (.iconst (-1), 1) := by decide +kernel
theorem dX11_post_30 : decode cX11_post 30 = .ok (.if_icmp .eq 6, 3) := by decide +kernel
theorem dX11_post_33 : decode cX11_post 33 = .ok (.ldc 199, 2) := by decide +kernel
theorem dX11_post_35 : decode cX11_post 35 = .ok (.ireturn, 1) := by decide +kernel
theorem dX11_post_36 : decode cX11_post 36 = .ok (.aload_n 0, 1) := by decide +kernel
theorem dX11_post_37 : decode cX11_post 37 = .ok (.invokevirtual 200, 3) := by decide +kernel
theorem dX11_post_40 : decode cX11_post 40 = .ok (.aload_n 0, 1) := by decide +kernel
theorem dX11_post_41 : decode cX11_post 41 = .ok (.getfield 19, 3) := by decide +kernel
theorem dX11_post_44 : decode cX11_post 44 = .ok (.bipush 24, 2) := by decide +kernel
theorem dX11_post_46 : decode cX11_post 46 = .ok (.iload_n 1, 1) := by decide +kernel
theorem dX11_post_47 : decode cX11_post 47 = .ok (.iadd, 1) := by decide +kernel
theorem dX11_post_48 : decode cX11_post 48 = .ok (.iaload, 1) := by decide +kernel
theorem dX11_post_49 : decode cX11_post 49 = .ok (.istore_n 3, 1) := by decide +kernel
theorem dX11_post_50 : decode cX11_post 50 = .ok (.aload_n 0, 1) := by decide +kernel
theorem dX11_post_51 : decode cX11_post 51 = .ok (.getfield 19, 3) := by decide +kernel
theorem dX11_post_54 : decode cX11_post 54 = .ok (.bipush 24, 2) := by decide +kernel
theorem dX11_post_56 : decode cX11_post 56 = .ok (.iload_n 1, 1) := by decide +kernel
theorem dX11_post_57 : decode cX11_post 57 = .ok (.iadd, 1) := by decide +kernel
theorem dX11_post_58 : decode cX11_post 58 = .ok (.iload_n 2, 1) := by decide +kernel
theorem dX11_post_59 : decode cX11_post 59 = .ok (.iastore, 1) := by decide +kernel
theorem dX11_post_60 : decode cX11_post 60 = .ok (.iload_n 3, 1) := by decide +kernel
theorem dX11_post_61 : decode cX11_post 61 = .ok (.ireturn, 1) := by decide +kernel
theorem dX11_rest_0 : decode cX11_rest 0 = .ok (.aload_n 0, 1) := by decide +kernel
theorem dX11_rest_1 : decode cX11_rest 1 = .ok (.iconst 0, 1) := by decide +kernel
theorem dX11_rest_2 : decode cX11_rest 2 = .ok (.putfield 63, 3) := by decide +kernel
theorem dX11_rest_5 : decode cX11_rest 5 = .ok (.aload_n 0, 1) := by decide +kernel
theorem dX11_rest_6 : decode cX11_rest 6 = .ok (.iload_n 1, 1) := by decide +kernel
theorem dX11_rest_7 : decode cX11_rest 7 = .ok (.invokevirtual 183, 3) := by decide +kernel
theorem dX11_rest_10 : decode cX11_rest 10 = .ok (.ifCond .ne 6, 3) := by decide +kernel
theorem dX11_rest_13 : decode cX11_rest 13 = .ok (.ldc 182, 2) := by decide +kernel
theorem dX11_rest_15 : decode cX11_rest 15 = .ok (.ireturn, 1) := by decide +kernel
theorem dX11_rest_16 : decode cX11_rest 16 = .ok (.aload_n 0, 1) := by decide +kernel
theorem dX11_rest_17 : decode cX11_rest 17 = .ok (.getfield 19, 3) := by decide +kernel
theorem dX11_rest_20 : decode cX11_rest 20 = .ok (.bipush 24, 2) := by decide +kernel
theorem dX11_rest_22 : decode cX11_rest 22 = .ok (.iload_n 1, 1) := by decide +kernel
theorem dX11_rest_23 : decode cX11_rest 23 = .ok (.iadd, 1) := by decide +kernel
theorem dX11_rest_24 : decode cX11_rest 24 = .ok (.iaload, 1) := by decide +kernel
theorem dX11_rest_25 : decode cX11_rest 25 = .ok (.istore_n 2, 1) := by decide +kernel
theorem dX11_rest_26 : decode cX11_rest 26 = .ok (.iload_n 2, 1) := by decide +kernel
theorem dX11_rest_27 : decode cX11_rest 27 = .ok (.iconst (-1), 1) := by decide +kernel
theorem dX11_rest_28 : decode cX11_rest 28 = .ok (.if_icmp .ne 6, 3) := by decide +kernel
theorem dX11_rest_31 : decode cX11_rest 31 = .ok (.ldc 199, 2) := by decide +kernel
theorem dX11_rest_33 : decode cX11_rest 33 = .ok (.ireturn, 1) := by decide +kernel
theorem dX11_rest_34 : decode cX11_rest 34 = .ok (.aload_n 0, 1) := by decide +kernel
theorem dX11_rest_35 : decode cX11_rest 35 = .ok (.invokevirtual 200, 3) := by decide +kernel
theorem dX11_rest_38 : decode cX11_rest 38 = .ok (.aload_n 0, 1) := by decide +kernel
theorem dX11_rest_39 : decode cX11_rest 39 = .ok (.getfield 19, 3) := by decide +kernel
theorem dX11_rest_42 : decode cX11_rest 42 = .ok (.bipush 24, 2) := by decide +kernel
theorem dX11_rest_44 : decode cX11_rest 44 = .ok (.iload_n 1, 1) := by decide +kernel
theorem dX11_rest_45 : decode cX11_rest 45 = .ok (.iadd, 1) := by decide +kernel
theorem dX11_rest_46 : decode cX11_rest 46 = .ok (.iconst (-1), 1) := by decide +kernel
theorem dX11_rest_47 : decode cX11_rest 47 = .ok (.iastore, 1) := by decide +kernel
theorem dX11_rest_48 : decode cX11_rest 48 = .ok (.iload_n 2, 1) := by decide +kernel
theorem dX11_rest_49 : decode cX11_rest 49 = .ok (.ireturn, 1) := by decide +kernel
theorem dX11_train_0 : decode cX11_train 0 = .ok (.aload_n 0, 1) := by decide +kernel
theorem dX11_train_1 : decode cX11_train 1 = .ok (.iconst 0, 1) := by decide +kernel
theorem dX11_train_2 : decode cX11_train 2 = .ok (.putfield 63, 3) := by decide +kernel
theorem dX11_train_5 : decode cX11_train 5 = .ok (.aload_n 0, 1) := by decide +kernel
theorem dX11_train_6 : decode cX11_train 6 = .ok (.iload_n 1, 1) := by decide +kernel
theorem dX11_train_7 : decode cX11_train 7 = .ok (.invokevirtual 183, 3) := by decide +kernel
theorem dX11_train_10 : decode cX11_train 10 = .ok (.ifCond .ne 6, 3) := by decide +kernel
theorem dX11_train_13 : decode cX11_train 13 = .ok (.ldc 182, 2) := by decide +kernel
theorem dX11_train_15 : decode cX11_train 15 = .ok (.ireturn, 1) := by decide +kernel
theorem dX11_train_16 : decode cX11_train 16 = .ok (.aload_n 0, 1) := by decide +kernel
theorem dX11_train_17 : decode cX11_train 17 = .ok (.getfield 19, 3) := by decide +kernel
theorem dX11_train_20 : decode cX11_train 20 = .ok (.bipush 42, 2) := by decide +kernel
theorem dX11_train_22 : decode cX11_train 22 = .ok (.iload_n 1, 1) := by decide +kernel
theorem dX11_train_23 : decode cX11_train 23 = .ok (.iadd, 1) := by decide +kernel
theorem dX11_train_24 : decode cX11_train 24 = .ok (.iaload, 1) := by decide +kernel
theorem dX11_train_25 : decode cX11_train 25 = .ok (.iconst 1, 1) := by decide +kernel
theorem dX11_train_26 : decode cX11_train 26 = .ok (.if_icmp .ne 6, 3) := by decide +kernel
theorem dX11_train_29 : decode cX11_train 29 = .ok (.ldc 199, 2) := by decide +kernel
theorem dX11_train_31 : decode cX11_train 31 = .ok (.ireturn, 1) := by decide +kernel
theorem dX11_train_32 : decode cX11_train 32 = .ok (.aload_n 0, 1) := by decide +kernel
theorem dX11_train_33 : decode cX11_train 33 = .ok (.invokevirtual 200, 3) := by decide +kernel
theorem dX11_train_36 : decode cX11_train 36 = .ok (.aload_n 0, 1) := by decide +kernel
theorem dX11_train_37 : decode cX11_train 37 = .ok (.getfield 19, 3) := by decide +kernel
theorem dX11_train_40 : decode cX11_train 40 = .ok (.bipush 42, 2) := by decide +kernel
theorem dX11_train_42 : decode cX11_train 42 = .ok (.iload_n 1, 1) := by decide +kernel
theorem dX11_train_43 : decode cX11_train 43 = .ok (.iadd, 1) := by decide +kernel
theorem dX11_train_44 : decode cX11_train 44 = .ok (.dup2, 1) := by decide +kernel
theorem dX11_train_45 : decode cX11_train 45 = .ok (.iaload, 1) := by decide +kernel
theorem dX11_train_46 : decode cX11_train 46 = .ok (.iconst 1, 1) := by decide +kernel
theorem dX11_train_47 : decode cX11_train 47 = .ok (.isub, 1) := by decide +kernel
theorem dX11_train_48 : decode cX11_train 48 = .ok (.iastore, 1) := by decide +kernel
theorem dX11_train_49 : decode cX11_train 49 = .ok (.aload_n 0, 1) := by decide +kernel
theorem dX11_train_50 : decode cX11_train 50 = .ok (.getfield 19, 3) := by decide +kernel
theorem dX11_train_53 : decode cX11_train 53 = .ok (.bipush 42, 2) := by decide +kernel
theorem dX11_train_55 : decode cX11_train 55 = .ok (.iload_n 1, 1) := by decide +kernel
theorem dX11_train_56 : decode cX11_train 56 = .ok (.iadd, 1) := by decide +kernel
theorem dX11_train_57 : decode cX11_train 57 = .ok (.iaload, 1) := by decide +kernel
theorem dX11_train_58 : decode cX11_train 58 = .ok (.ireturn, 1) := by decide +kernel
theorem dX11_talk_0 : decode cX11_talk 0 = .ok (.aload_n 0, 1) := by decide +kernel
theorem dX11_talk_1 : decode cX11_talk 1 = .ok (.iconst 0, 1) := by decide +kernel
theorem dX11_talk_2 : decode cX11_talk 2 = .ok (.putfield 63, 3) := by decide +kernel
theorem dX11_talk_5 : decode cX11_talk 5 = .ok (.aload_n 0, 1) := by decide +kernel
theorem dX11_talk_6 : decode cX11_talk 6 = .ok (.iload_n 1, 1) := by decide +kernel
theorem dX11_talk_7 : decode cX11_talk 7 = .ok (.invokevirtual 186, 3) := by decide +kernel
theorem dX11_talk_10 : decode cX11_talk 10 = .ok (.ifCond .ne 6, 3) := by decide +kernel
theorem dX11_talk_13 : decode cX11_talk 13 = .ok (.ldc 182, 2) := by decide +kernel
theorem dX11_talk_15 : decode cX11_talk 15 = .ok (.ireturn, 1) := by decide +kernel
theorem dX11_talk_16 : decode cX11_talk 16 = .ok (.iload_n 2, 1) := by decide +kernel
theorem dX11_talk_17 : decode cX11_talk 17 = .ok (.iconst 0, 1) := by decide +kernel
theorem dX11_talk_18 : decode cX11_talk 18 = .ok (.bipush 30, 2) := by decide +kernel
theorem dX11_talk_20 : decode cX11_talk 20 = .ok (.invokestatic 66, 3) := by decide +kernel
theorem dX11_talk_23 : decode cX11_talk 23 = .ok (.ifCond .ne 6, 3) := by decide +kernel
theorem dX11_talk_26 : decode cX11_talk 26 = .ok (.ldc 70, 2) := by decide +kernel
theorem dX11_talk_28 : decode cX11_talk 28 = .ok (.ireturn, 1) := by decide +kernel
theorem dX11_talk_29 : decode cX11_talk 29 = .ok (.aload_n 0, 1) := by decide +kernel
theorem dX11_talk_30 : decode cX11_talk 30 = .ok (.invokevirtual 200, 3) := by decide +kernel
theorem dX11_talk_33 : decode cX11_talk 33 = .ok (.aload_n 0, 1) := by decide +kernel
theorem dX11_talk_34 : decode cX11_talk 34 = .ok (.getfield 19, 3) := by decide +kernel
theorem dX11_talk_37 : decode cX11_talk 37 = .ok (.bipush 6, 2) := by decide +kernel
theorem dX11_talk_39 : decode cX11_talk 39 = .ok (.iload_n 1, 1) := by decide +kernel
theorem dX11_talk_40 : decode cX11_talk 40 = .ok (.iadd, 1) := by decide +kernel
theorem dX11_talk_41 : decode cX11_talk 41 = .ok (.iaload, 1) := by decide +kernel
theorem dX11_talk_42 : decode cX11_talk 42 = .ok (.istore_n 3, 1) := by decide +kernel
theorem dX11_talk_43 : decode cX11_talk 43 = .ok (.aload_n 0, 1) := by decide +kernel
theorem dX11_talk_44 : decode cX11_talk 44 = .ok (.getfield 19, 3) := by decide +kernel
theorem dX11_talk_47 : decode cX11_talk 47 = .ok (.bipush 6, 2) := by decide +kernel
theorem dX11_talk_49 : decode cX11_talk 49 = .ok (.iload_n 1, 1) := by decide +kernel
theorem dX11_talk_50 : decode cX11_talk 50 = .ok (.iadd, 1) := by decide +kernel
theorem dX11_talk_51 : decode cX11_talk 51 = .ok (.iload_n 2, 1) := by decide +kernel
theorem dX11_talk_52 : decode cX11_talk 52 = .ok (.iastore, 1) := by decide +kernel
theorem dX11_talk_53 : decode cX11_talk 53 = .ok (.iload_n 3, 1) := by decide +kernel
theorem dX11_talk_54 : decode cX11_talk 54 = .ok (.ireturn, 1) := by decide +kernel
theorem dX11_oneHour_0 : decode cX11_oneHour 0 = .ok (.iconst 0, 1) := by decide +kernel
theorem dX11_oneHour_1 : decode cX11_oneHour 1 = .ok (.istore_n 1, 1) := by decide +kernel
theorem dX11_oneHour_2 : decode cX11_oneHour 2 = .ok (.iload_n 1, 1) := by decide +kernel
theorem dX11_oneHour_3 : decode cX11_oneHour 3 = .ok (.aload_n 0, 1) := by decide +kernel
theorem dX11_oneHour_4 : decode cX11_oneHour 4 = .ok (.getfield 16, 3) := by decide +kernel
theorem dX11_oneHour_7 : decode cX11_oneHour 7 = .ok (.iconst 2, 1) := by decide +kernel
theorem dX11_oneHour_8 : decode cX11_oneHour 8 = .ok (.iaload, 1) := by decide +kernel
theorem dX11_oneHour_9 : decode cX11_oneHour 9 = .ok (.if_icmp .ge 56, 3) := by decide +kernel
theorem dX11_oneHour_12 : decode cX11_oneHour 12 = .ok (.aload_n 0, 1) := by decide +kernel
theorem dX11_oneHour_13 : decode cX11_oneHour 13 = .ok (.getfield 19, 3) := by decide +kernel
theorem dX11_oneHour_16 : decode cX11_oneHour 16 = .ok (.bipush 33, 2) := by decide +kernel
theorem dX11_oneHour_18 : decode cX11_oneHour 18 = .ok (.iload_n 1, 1) := by decide +kernel
theorem dX11_oneHour_19 : decode cX11_oneHour 19 = .ok (.iadd, 1) := by decide +kernel
theorem dX11_oneHour_20 : decode cX11_oneHour 20 = .ok (.iaload, 1) := by decide +kernel
theorem dX11_oneHour_21 : decode cX11_oneHour 21 = .ok (.aload_n 0, 1) := by decide +kernel
theorem dX11_oneHour_22 : decode cX11_oneHour 22 = .ok (.getfield 19, 3) := by decide +kernel
theorem dX11_oneHour_25 : decode cX11_oneHour 25 = .ok (.bipush 24, 2) := by decide +kernel
theorem dX11_oneHour_27 : decode cX11_oneHour 27 = .ok (.iload_n 1, 1) := by decide +kernel
theorem dX11_oneHour_28 : decode cX11_oneHour 28 = .ok (.iadd, 1) := by decide +kernel
theorem dX11_oneHour_29 : decode cX11_oneHour 29 = .ok (.iaload, 1) := by decide +kernel
theorem dX11_oneHour_30 : decode cX11_oneHour 30 = .ok (.iconst (-1), 1) := by decide +kernel
theorem dX11_oneHour_31 : decode cX11_oneHour 31 = .ok (.if_icmp .ne 7, 3) := by decide +kernel
theorem dX11_oneHour_34 : decode cX11_oneHour 34 = .ok (.iconst 3, 1) := by decide +kernel
theorem dX11_oneHour_35 : decode cX11_oneHour 35 = .ok (.goto 4, 3) := by decide +kernel
theorem dX11_oneHour_38 : decode cX11_oneHour 38 = .ok (.iconst 1, 1) := by decide +kernel
theorem dX11_oneHour_39 : decode cX11_oneHour 39 = .ok (.isub, 1) := by decide +kernel
theorem dX11_oneHour_40 : decode cX11_oneHour 40 = .ok (.istore_n 2, 1) := by decide +kernel
theorem dX11_oneHour_41 : decode cX11_oneHour 41 = .ok (.aload_n 0, 1) := by decide +kernel
theorem dX11_oneHour_42 : decode cX11_oneHour 42 = .ok (.getfield 19, 3) := by decide +kernel
theorem dX11_oneHour_45 : decode cX11_oneHour 45 = .ok (.bipush 33, 2) := by decide +kernel
theorem dX11_oneHour_47 : decode cX11_oneHour 47 = .ok (.iload_n 1, 1) := by decide +kernel
theorem dX11_oneHour_48 : decode cX11_oneHour 48 = .ok (.iadd, 1) := by decide +kernel
theorem dX11_oneHour_49 : decode cX11_oneHour 49 = .ok (.iload_n 2, 1) := by decide +kernel
theorem dX11_oneHour_50 : decode cX11_oneHour 50 = .ok (.ifCond .ge 7, 3) := by decide +kernel
theorem dX11_oneHour_53 : decode cX11_oneHour 53 = .ok (.iconst 0, 1) := by decide +kernel
theorem dX11_oneHour_54 : decode cX11_oneHour 54 = .ok (.goto 4, 3) := by decide +kernel
theorem dX11_oneHour_57 : decode cX11_oneHour 57 = .ok (.iload_n 2, 1) := by decide +kernel
theorem dX11_oneHour_58 : decode cX11_oneHour 58 = .ok (.iastore, 1) := by decide +kernel
theorem dX11_oneHour_59 : decode cX11_oneHour 59 = .ok (.iinc 1 1, 3) := by decide +kernel
theorem dX11_oneHour_62 : decode cX11_oneHour 62 = .ok (.goto (-60), 3) := by decide +kernel
theorem dX11_oneHour_65 : decode cX11_oneHour 65 = .ok (.iconst 0, 1) := by decide +kernel
theorem dX11_oneHour_66 : decode cX11_oneHour 66 = .ok (.istore_n 1, 1) := by decide +kernel
theorem dX11_oneHour_67 : decode cX11_oneHour 67 = .ok (.iload_n 1, 1) := by decide +kernel
theorem dX11_oneHour_68 : decode cX11_oneHour 68 = .ok (.aload_n 0, 1) := by decide +kernel
theorem dX11_oneHour_69 : decode cX11_oneHour 69 = .ok (.getfield 16, 3) := by decide +kernel
theorem dX11_oneHour_72 : decode cX11_oneHour 72 = .ok (.iconst 3, 1) := by decide +kernel
theorem dX11_oneHour_73 : decode cX11_oneHour 73 = .ok (.iaload, 1) := by decide +kernel
theorem dX11_oneHour_74 : decode cX11_oneHour 74 = .ok (.if_icmp .ge 32, 3) := by decide +kernel
theorem dX11_oneHour_77 : decode cX11_oneHour 77 = .ok (.aload_n 0, 1) := by decide +kernel
theorem dX11_oneHour_78 : decode cX11_oneHour 78 = .ok (.getfield 19, 3) := by decide +kernel
theorem dX11_oneHour_81 : decode cX11_oneHour 81 = .ok (.bipush 6, 2) := by decide +kernel
theorem dX11_oneHour_83 : decode cX11_oneHour 83 = .ok (.iload_n 1, 1) := by decide +kernel
theorem dX11_oneHour_84 : decode cX11_oneHour 84 = .ok (.iadd, 1) := by decide +kernel
theorem dX11_oneHour_85 : decode cX11_oneHour 85 = .ok (.dup2, 1) := by decide +kernel
theorem dX11_oneHour_86 : decode cX11_oneHour 86 = .ok (.iaload, 1) := by decide +kernel
theorem dX11_oneHour_87 : decode cX11_oneHour 87 = .ok (.aload_n 0, 1) := by decide +kernel
theorem dX11_oneHour_88 : decode cX11_oneHour 88 = .ok (.getfield 19, 3) := by decide +kernel
theorem dX11_oneHour_91 : decode cX11_oneHour 91 = .ok (.bipush 6, 2) := by decide +kernel
theorem dX11_oneHour_93 : decode cX11_oneHour 93 = .ok (.iload_n 1, 1) := by decide +kernel
theorem dX11_oneHour_94 : decode cX11_oneHour 94 = .ok (.iadd, 1) := by decide +kernel
theorem dX11_oneHour_95 : decode cX11_oneHour 95 = .ok (.iaload, 1) := by decide +kernel
theorem dX11_oneHour_96 : decode cX11_oneHour 96 = .ok (.iconst 2, 1) := by decide +kernel
theorem dX11_oneHour_97 : decode cX11_oneHour 97 = .ok (.irem, 1) := by decide +kernel
theorem dX11_oneHour_98 : decode cX11_oneHour 98 = .ok (.isub, 1) := by decide +kernel
theorem dX11_oneHour_99 : decode cX11_oneHour 99 = .ok (.iastore, 1) := by decide +kernel
theorem dX11_oneHour_100 : decode cX11_oneHour 100 = .ok (.iinc 1 1, 3) := by decide +kernel
theorem dX11_oneHour_103 : decode cX11_oneHour 103 = .ok (.goto (-36), 3) := by decide +kernel
theorem dX11_oneHour_106 : decode cX11_oneHour 106 = .ok (.aload_n 0, 1) := by decide +kernel
theorem dX11_oneHour_107 : decode cX11_oneHour 107 = .ok (.getfield 19, 3) := by decide +kernel
theorem dX11_oneHour_110 : decode cX11_oneHour 110 = .ok (.bipush 51, 2) := by decide +kernel
theorem dX11_oneHour_112 : decode cX11_oneHour 112 = .ok (.dup2, 1) := by decide +kernel
theorem dX11_oneHour_113 : decode cX11_oneHour 113 = .ok (.iaload, 1) := by decide +kernel
theorem dX11_oneHour_114 : decode cX11_oneHour 114 = .ok (.iconst 1, 1) := by decide +kernel
theorem dX11_oneHour_115 : decode cX11_oneHour 115 = .ok (.iadd, 1) := by decide +kernel
theorem dX11_oneHour_116 : decode cX11_oneHour 116 = .ok (.iastore, 1) := by decide +kernel
theorem dX11_oneHour_117 : decode cX11_oneHour 117 = .ok (.return_, 1) := by decide +kernel
theorem dX11_mayGo_0 : decode cX11_mayGo 0 = .ok (.iload_n 1, 1) := by decide +kernel
theorem dX11_mayGo_1 : decode cX11_mayGo 1 = .ok (.iconst 1, 1) := by decide +kernel
theorem dX11_mayGo_2 : decode cX11_mayGo 2 = .ok (.bipush 60, 2) := by decide +kernel
theorem dX11_mayGo_4 : decode cX11_mayGo 4 = .ok (.invokestatic 66, 3) := by decide +kernel
theorem dX11_mayGo_7 : decode cX11_mayGo 7 = .ok (.ifCond .ne 6, 3) := by decide +kernel
theorem dX11_mayGo_10 : decode cX11_mayGo 10 = .ok (.ldc 70, 2) := by decide +kernel
theorem dX11_mayGo_12 : decode cX11_mayGo 12 = .ok (.ireturn, 1) := by decide +kernel
theorem dX11_mayGo_13 : decode cX11_mayGo 13 = .ok (.aload_n 0, 1) := by decide +kernel
theorem dX11_mayGo_14 : decode cX11_mayGo 14 = .ok (.getfield 16, 3) := by decide +kernel
theorem dX11_mayGo_17 : decode cX11_mayGo 17 = .ok (.iconst 0, 1) := by decide +kernel
theorem dX11_mayGo_18 : decode cX11_mayGo 18 = .ok (.iaload, 1) := by decide +kernel
theorem dX11_mayGo_19 : decode cX11_mayGo 19 = .ok (.ifCond .ne 8, 3) := by decide +kernel
theorem dX11_mayGo_22 : decode cX11_mayGo 22 = .ok (.ldc 199, 2) := by decide +kernel
theorem dX11_mayGo_24 : decode cX11_mayGo 24 = .ok (.goto 22, 3) := by decide +kernel
theorem dX11_mayGo_27 : decode cX11_mayGo 27 = .ok (.aload_n 0, 1) := by decide +kernel
theorem dX11_mayGo_28 : decode cX11_mayGo 28 = .ok (.getfield 19, 3) := by decide +kernel
theorem dX11_mayGo_31 : decode cX11_mayGo 31 = .ok (.bipush 51, 2) := by decide +kernel
theorem dX11_mayGo_33 : decode cX11_mayGo 33 = .ok (.iaload, 1) := by decide +kernel
theorem dX11_mayGo_34 : decode cX11_mayGo 34 = .ok (.sipush 9000, 3) := by decide +kernel
theorem dX11_mayGo_37 : decode cX11_mayGo 37 = .ok (.if_icmp .le 8, 3) := by decide +kernel
theorem dX11_mayGo_40 : decode cX11_mayGo 40 = .ok (.ldc 74, 2) := by decide +kernel
theorem dX11_mayGo_42 : decode cX11_mayGo 42 = .ok (.goto 4, 3) := by decide +kernel
theorem dX11_mayGo_45 : decode cX11_mayGo 45 = .ok (.iconst 0, 1) := by decide +kernel
theorem dX11_mayGo_46 : decode cX11_mayGo 46 = .ok (.ireturn, 1) := by decide +kernel
theorem dX11_hour_0 : decode cX11_hour 0 = .ok (.aload_n 0, 1) := by decide +kernel
theorem dX11_hour_1 : decode cX11_hour 1 = .ok (.iconst 0, 1) := by decide +kernel
theorem dX11_hour_2 : decode cX11_hour 2 = .ok (.putfield 63, 3) := by decide +kernel
theorem dX11_hour_5 : decode cX11_hour 5 = .ok (.aload_n 0, 1) := by decide +kernel
theorem dX11_hour_6 : decode cX11_hour 6 = .ok (.iload_n 1, 1) := by decide +kernel
theorem dX11_hour_7 : decode cX11_hour 7 = .ok (.invokevirtual 207, 3) := by decide +kernel
theorem dX11_hour_10 : decode cX11_hour 10 = .ok (.istore_n 2, 1) := by decide +kernel
theorem dX11_hour_11 : decode cX11_hour 11 = .ok (.iload_n 2, 1) := by decide +kernel
theorem dX11_hour_12 : decode cX11_hour 12 = .ok (.ifCond .eq 5, 3) := by decide +kernel
theorem dX11_hour_15 : decode cX11_hour 15 = .ok (.iload_n 2, 1) := by decide +kernel
theorem dX11_hour_16 : decode cX11_hour 16 = .ok (.ireturn, 1) := by decide +kernel
theorem dX11_hour_17 : decode cX11_hour 17 = .ok (.aload_n 0, 1) := by decide +kernel
theorem dX11_hour_18 : decode cX11_hour 18 = .ok (.invokevirtual 200, 3) := by decide +kernel
theorem dX11_hour_21 : decode cX11_hour 21 = .ok (.iconst 0, 1) := by decide +kernel
theorem dX11_hour_22 : decode cX11_hour 22 = .ok (.istore_n 3, 1) := by decide +kernel
theorem dX11_hour_23 : decode cX11_hour 23 = .ok (.iload_n 3, 1) := by decide +kernel
theorem dX11_hour_24 : decode cX11_hour 24 = .ok (.iload_n 1, 1) := by decide +kernel
theorem dX11_hour_25 : decode cX11_hour 25 = .ok (.if_icmp .ge 13, 3) := by decide +kernel
theorem dX11_hour_28 : decode cX11_hour 28 = .ok (.aload_n 0, 1) := by decide +kernel
theorem dX11_hour_29 : decode cX11_hour 29 = .ok (.invokevirtual 210, 3) := by decide +kernel
theorem dX11_hour_32 : decode cX11_hour 32 = .ok (.iinc 3 1, 3) := by decide +kernel
theorem dX11_hour_35 : decode cX11_hour 35 = .ok (.goto (-12), 3) := by decide +kernel
theorem dX11_hour_38 : decode cX11_hour 38 = .ok (.aload_n 0, 1) := by decide +kernel
theorem dX11_hour_39 : decode cX11_hour 39 = .ok (.getfield 19, 3) := by decide +kernel
theorem dX11_hour_42 : decode cX11_hour 42 = .ok (.bipush 51, 2) := by decide +kernel
theorem dX11_hour_44 : decode cX11_hour 44 = .ok (.iaload, 1) := by decide +kernel
theorem dX11_hour_45 : decode cX11_hour 45 = .ok (.ireturn, 1) := by decide +kernel
theorem dX11_draw_0 : decode cX11_draw 0 = .ok (.aload_n 0, 1) := by decide +kernel
theorem dX11_draw_1 : decode cX11_draw 1 = .ok (.getfield 19, 3) := by decide +kernel
theorem dX11_draw_4 : decode cX11_draw 4 = .ok (.sipush 133, 3) := by decide +kernel
theorem dX11_draw_7 : decode cX11_draw 7 = .ok (.iaload, 1) := by decide +kernel
theorem dX11_draw_8 : decode cX11_draw 8 = .ok (.i2l, 1) := by decide +kernel
theorem dX11_draw_9 : decode cX11_draw 9 = .ok (.lstore_n 2, 1) := by decide +kernel
theorem dX11_draw_10 : decode cX11_draw 10 = .ok (.lload_n 2, 1) := by decide +kernel
theorem dX11_draw_11 : decode cX11_draw 11 = .ok (.ldc2_w 213, 3) := by decide +kernel
theorem dX11_draw_14 : decode cX11_draw 14 = .ok (.lmul, 1) := by decide +kernel
theorem dX11_draw_15 : decode cX11_draw 15 = .ok (.ldc2_w 215, 3) := by decide +kernel
theorem dX11_draw_18 : decode cX11_draw 18 = .ok (.ladd, 1) := by decide +kernel
theorem dX11_draw_19 : decode cX11_draw 19 = .ok (.ldc2_w 217, 3) := by decide +kernel
theorem dX11_draw_22 : decode cX11_draw 22 = .ok (.lrem, 1) := by decide +kernel
theorem dX11_draw_23 : decode cX11_draw 23 = .ok (.lstore_n 2, 1) := by decide +kernel
theorem dX11_draw_24 : decode cX11_draw 24 = .ok (.aload_n 0, 1) := by decide +kernel
theorem dX11_draw_25 : decode cX11_draw 25 = .ok (.getfield 19, 3) := by decide +kernel
theorem dX11_draw_28 : decode cX11_draw 28 = .ok (.sipush 133, 3) := by decide +kernel
theorem dX11_draw_31 : decode cX11_draw 31 = .ok (.lload_n 2, 1) := by decide +kernel
theorem dX11_draw_32 : decode cX11_draw 32 = .ok (.l2i, 1) := by decide +kernel
theorem dX11_draw_33 : decode cX11_draw 33 = .ok (.iastore, 1) := by decide +kernel
theorem dX11_draw_34 : decode cX11_draw 34 = .ok (.aload_n 0, 1) := by decide +kernel
theorem dX11_draw_35 : decode cX11_draw 35 = .ok (.getfield 19, 3) := by decide +kernel
theorem dX11_draw_38 : decode cX11_draw 38 = .ok (.sipush 133, 3) := by decide +kernel
theorem dX11_draw_41 : decode cX11_draw 41 = .ok (.iaload, 1) := by decide +kernel
theorem dX11_draw_42 : decode cX11_draw 42 = .ok (.ldc 219, 2) := by decide +kernel
theorem dX11_draw_44 : decode cX11_draw 44 = .ok (.idiv, 1) := by decide +kernel
theorem dX11_draw_45 : decode cX11_draw 45 = .ok (.iload_n 1, 1) := by decide +kernel
theorem dX11_draw_46 : decode cX11_draw 46 = .ok (.irem, 1) := by decide +kernel
theorem dX11_draw_47 : decode cX11_draw 47 = .ok (.ireturn, 1) := by decide +kernel
theorem dX11_drift_0 : decode cX11_drift 0 = .ok (.aload_n 0, 1) := by decide +kernel
theorem dX11_drift_1 : decode cX11_drift 1 = .ok (.iconst 0, 1) := by decide +kernel
theorem dX11_drift_2 : decode cX11_drift 2 = .ok (.putfield 63, 3) := by decide +kernel
theorem dX11_drift_5 : decode cX11_drift 5 = .ok (.aload_n 0, 1) := by decide +kernel
theorem dX11_drift_6 : decode cX11_drift 6 = .ok (.iload_n 1, 1) := by decide +kernel
theorem dX11_drift_7 : decode cX11_drift 7 = .ok (.invokevirtual 207, 3) := by decide +kernel
theorem dX11_drift_10 : decode cX11_drift 10 = .ok (.istore_n 2, 1) := by decide +kernel
theorem dX11_drift_11 : decode cX11_drift 11 = .ok (.iload_n 2, 1) := by decide +kernel
theorem dX11_drift_12 : decode cX11_drift 12 = .ok (.ifCond .eq 5, 3) := by decide +kernel
theorem dX11_drift_15 : decode cX11_drift 15 = .ok (.iload_n 2, 1) := by decide +kernel
theorem dX11_drift_16 : decode cX11_drift 16 = .ok (.ireturn, 1) := by decide +kernel
theorem dX11_drift_17 : decode cX11_drift 17 = .ok (.aload_n 0, 1) := by decide +kernel
theorem dX11_drift_18 : decode cX11_drift 18 = .ok (.invokevirtual 200, 3) := by decide +kernel
theorem dX11_drift_21 : decode cX11_drift 21 = .ok (.iconst 0, 1) := by decide +kernel
theorem dX11_drift_22 : decode cX11_drift 22 = .ok (.istore_n 3, 1) := by decide +kernel
theorem dX11_drift_23 : decode cX11_drift 23 = .ok (.iload_n 3, 1) := by decide +kernel
theorem dX11_drift_24 : decode cX11_drift 24 = .ok (.iload_n 1, 1) := by decide +kernel
theorem dX11_drift_25 : decode cX11_drift 25 = .ok (.if_icmp .ge 111, 3) := by decide +kernel
theorem dX11_drift_28 : decode cX11_drift 28 = .ok (.aload_n 0, 1) := by decide +kernel
theorem dX11_drift_29 : decode cX11_drift 29 = .ok (.getfield 16, 3) := by decide +kernel
theorem dX11_drift_32 : decode cX11_drift 32 = .ok (.iconst 3, 1) := by decide +kernel
theorem dX11_drift_33 : decode cX11_drift 33 = .ok (.iaload, 1) := by decide +kernel
theorem dX11_drift_34 : decode cX11_drift 34 = .ok (.ifCond .le 92, 3) := by decide +kernel
theorem dX11_drift_37 : decode cX11_drift 37 = .ok (.aload_n 0, 1) := by decide +kernel
theorem dX11_drift_38 : decode cX11_drift 38 = .ok (.getfield 16, 3) := by decide +kernel
theorem dX11_drift_41 : decode cX11_drift 41 = .ok (.iconst 1, 1) := by decide +kernel
theorem dX11_drift_42 : decode cX11_drift 42 = .ok (.iaload, 1) := by decide +kernel
theorem dX11_drift_43 : decode cX11_drift 43 = .ok (.ifCond .le 83, 3) := by decide +kernel
theorem dX11_drift_46 : decode cX11_drift 46 = .ok (.aload_n 0, 1) := by decide +kernel
theorem dX11_drift_47 : decode cX11_drift 47 = .ok (.aload_n 0, 1) := by decide +kernel
theorem dX11_drift_48 : decode cX11_drift 48 = .ok (.getfield 16, 3) := by decide +kernel
theorem dX11_drift_51 : decode cX11_drift 51 = .ok (.iconst 3, 1) := by decide +kernel
theorem dX11_drift_52 : decode cX11_drift 52 = .ok (.iaload, 1) := by decide +kernel
theorem dX11_drift_53 : decode cX11_drift 53 = .ok (.invokevirtual 220, 3) := by decide +kernel
theorem dX11_drift_56 : decode cX11_drift 56 = .ok (.istore 4, 2) := by decide +kernel
theorem dX11_drift_58 : decode cX11_drift 58 = .ok (.aload_n 0, 1) := by decide +kernel
theorem dX11_drift_59 : decode cX11_drift 59 = .ok (.aload_n 0, 1) := by decide +kernel
theorem dX11_drift_60 : decode cX11_drift 60 = .ok (.getfield 16, 3) := by decide +kernel
theorem dX11_drift_63 : decode cX11_drift 63 = .ok (.iconst 1, 1) := by decide +kernel
theorem dX11_drift_64 : decode cX11_drift 64 = .ok (.iaload, 1) := by decide +kernel
theorem dX11_drift_65 : decode cX11_drift 65 = .ok (.invokevirtual 220, 3) := by decide +kernel
theorem dX11_drift_68 : decode cX11_drift 68 = .ok (.istore 5, 2) := by decide +kernel
theorem dX11_drift_70 : decode cX11_drift 70 = .ok (.aload_n 0, 1) := by decide +kernel
theorem dX11_drift_71 : decode cX11_drift 71 = .ok (.bipush 100, 2) := by decide +kernel
theorem dX11_drift_73 : decode cX11_drift 73 = .ok (.invokevirtual 220, 3) := by decide +kernel
theorem dX11_drift_76 : decode cX11_drift 76 = .ok (.istore 6, 2) := by decide +kernel
theorem dX11_drift_78 : decode cX11_drift 78 = .ok (.aload_n 0, 1) := by decide +kernel
theorem dX11_drift_79 : decode cX11_drift 79 = .ok (.iload 5, 2) := by decide +kernel
theorem dX11_drift_81 : decode cX11_drift 81 = .ok (.aload_n 0, 1) := by decide +kernel
theorem dX11_drift_82 : decode cX11_drift 82 = .ok (.getfield 19, 3) := by decide +kernel
theorem dX11_drift_85 : decode cX11_drift 85 = .ok (.iconst 0, 1) := by decide +kernel
theorem dX11_drift_86 : decode cX11_drift 86 = .ok (.iload 4, 2) := by decide +kernel
theorem dX11_drift_88 : decode cX11_drift 88 = .ok (.iadd, 1) := by decide +kernel
theorem dX11_drift_89 : decode cX11_drift 89 = .ok (.iaload, 1) := by decide +kernel
theorem dX11_drift_90 : decode cX11_drift 90 = .ok (.invokevirtual 193, 3) := by decide +kernel
theorem dX11_drift_93 : decode cX11_drift 93 = .ok (.iconst (-1), 1) := by decide +kernel
theorem dX11_drift_94 : decode cX11_drift 94 = .ok (.if_icmp .eq 32, 3) := by decide +kernel
theorem dX11_drift_97 : decode cX11_drift 97 = .ok (.aload_n 0, 1) := by decide +kernel
theorem dX11_drift_98 : decode cX11_drift 98 = .ok (.iload 4, 2) := by decide +kernel
theorem dX11_drift_100 : decode cX11_drift 100 = .ok (.iload 5, 2) := by decide +kernel
theorem dX11_drift_102 : decode cX11_drift 102 = .ok (.iload 6, 2) := by decide +kernel
theorem dX11_drift_104 : decode cX11_drift 104 = .ok (.aload_n 0, 1) := by decide +kernel
theorem dX11_drift_105 : decode cX11_drift 105 = .ok (.getfield 16, 3) := by decide +kernel
theorem dX11_drift_108 : decode cX11_drift 108 = .ok (.bipush 31, 2) := by decide +kernel
theorem dX11_drift_110 : decode cX11_drift 110 = .ok (.iload 5, 2) := by decide +kernel
theorem dX11_drift_112 : decode cX11_drift 112 = .ok (.iadd, 1) := by decide +kernel
theorem dX11_drift_113 : decode cX11_drift 113 = .ok (.iaload, 1) := by decide +kernel
theorem dX11_drift_114 : decode cX11_drift 114 = .ok (.if_icmp .ge 7, 3) := by decide +kernel
theorem dX11_drift_117 : decode cX11_drift 117 = .ok (.iconst 1, 1) := by decide +kernel
theorem dX11_drift_118 : decode cX11_drift 118 = .ok (.goto 4, 3) := by decide +kernel
theorem dX11_drift_121 : decode cX11_drift 121 = .ok (.iconst 0, 1) := by decide +kernel
theorem dX11_drift_122 : decode cX11_drift 122 = .ok (.invokevirtual 203, 3) := by decide +kernel
theorem dX11_drift_125 : decode cX11_drift 125 = .ok (.pop, 1) := by decide +kernel
theorem dX11_drift_126 : decode cX11_drift 126 = .ok (.aload_n 0, 1) := by decide +kernel
theorem dX11_drift_127 : decode cX11_drift 127 = .ok (.invokevirtual 210, 3) := by decide +kernel
theorem dX11_drift_130 : decode cX11_drift 130 = .ok (.iinc 3 1, 3) := by decide +kernel
theorem dX11_drift_133 : decode cX11_drift 133 = .ok (.goto (-110), 3) := by decide +kernel
theorem dX11_drift_136 : decode cX11_drift 136 = .ok (.aload_n 0, 1) := by decide +kernel
theorem dX11_drift_137 : decode cX11_drift 137 = .ok (.getfield 19, 3) := by decide +kernel
theorem dX11_drift_140 : decode cX11_drift 140 = .ok (.bipush 51, 2) := by decide +kernel
theorem dX11_drift_142 : decode cX11_drift 142 = .ok (.iaload, 1) := by decide +kernel
theorem dX11_drift_143 : decode cX11_drift 143 = .ok (.ireturn, 1) := by decide +kernel
theorem dX11_undo_0 : decode cX11_undo 0 = .ok (.aload_n 0, 1) := by decide +kernel
theorem dX11_undo_1 : decode cX11_undo 1 = .ok (.iconst 0, 1) := by decide +kernel
theorem dX11_undo_2 : decode cX11_undo 2 = .ok (.putfield 63, 3) := by decide +kernel
theorem dX11_undo_5 : decode cX11_undo 5 = .ok (.aload_n 0, 1) := by decide +kernel
theorem dX11_undo_6 : decode cX11_undo 6 = .ok (.getfield 132, 3) := by decide +kernel
theorem dX11_undo_9 : decode cX11_undo 9 = .ok (.ifCond .ne 6, 3) := by decide +kernel
theorem dX11_undo_12 : decode cX11_undo 12 = .ok (.ldc 199, 2) := by decide +kernel
theorem dX11_undo_14 : decode cX11_undo 14 = .ok (.ireturn, 1) := by decide +kernel
theorem dX11_undo_15 : decode cX11_undo 15 = .ok (.aload_n 0, 1) := by decide +kernel
theorem dX11_undo_16 : decode cX11_undo 16 = .ok (.dup, 1) := by decide +kernel
theorem dX11_undo_17 : decode cX11_undo 17 = .ok (.getfield 132, 3) := by decide +kernel
theorem dX11_undo_20 : decode cX11_undo 20 = .ok (.iconst 1, 1) := by decide +kernel
theorem dX11_undo_21 : decode cX11_undo 21 = .ok (.isub, 1) := by decide +kernel
theorem dX11_undo_22 : decode cX11_undo 22 = .ok (.putfield 132, 3) := by decide +kernel
theorem dX11_undo_25 : decode cX11_undo 25 = .ok (.iconst 0, 1) := by decide +kernel
theorem dX11_undo_26 : decode cX11_undo 26 = .ok (.istore_n 1, 1) := by decide +kernel
theorem dX11_undo_27 : decode cX11_undo 27 = .ok (.iload_n 1, 1) := by decide +kernel
theorem dX11_undo_28 : decode cX11_undo 28 = .ok (.sipush 133, 3) := by decide +kernel
theorem dX11_undo_31 : decode cX11_undo 31 = .ok (.if_icmp .ge 30, 3) := by decide +kernel
theorem dX11_undo_34 : decode cX11_undo 34 = .ok (.aload_n 0, 1) := by decide +kernel
theorem dX11_undo_35 : decode cX11_undo 35 = .ok (.getfield 19, 3) := by decide +kernel
theorem dX11_undo_38 : decode cX11_undo 38 = .ok (.iload_n 1, 1) := by decide +kernel
theorem dX11_undo_39 : decode cX11_undo 39 = .ok (.aload_n 0, 1) := by decide +kernel
theorem dX11_undo_40 : decode cX11_undo 40 = .ok (.getfield 29, 3) := by decide +kernel
theorem dX11_undo_43 : decode cX11_undo 43 = .ok (.sipush 134, 3) := by decide +kernel
theorem dX11_undo_46 : decode cX11_undo 46 = .ok (.aload_n 0, 1) := by decide +kernel
theorem dX11_undo_47 : decode cX11_undo 47 = .ok (.getfield 132, 3) := by decide +kernel
theorem dX11_undo_50 : decode cX11_undo 50 = .ok (.imul, 1) := by decide +kernel
theorem dX11_undo_51 : decode cX11_undo 51 = .ok (.iload_n 1, 1) := by decide +kernel
theorem dX11_undo_52 : decode cX11_undo 52 = .ok (.iadd, 1) := by decide +kernel
theorem dX11_undo_53 : decode cX11_undo 53 = .ok (.iaload, 1) := by decide +kernel
theorem dX11_undo_54 : decode cX11_undo 54 = .ok (.iastore, 1) := by decide +kernel
theorem dX11_undo_55 : decode cX11_undo 55 = .ok (.iinc 1 1, 3) := by decide +kernel
theorem dX11_undo_58 : decode cX11_undo 58 = .ok (.goto (-31), 3) := by decide +kernel
theorem dX11_undo_61 : decode cX11_undo 61 = .ok (.aload_n 0, 1) := by decide +kernel
theorem dX11_undo_62 : decode cX11_undo 62 = .ok (.getfield 132, 3) := by decide +kernel
theorem dX11_undo_65 : decode cX11_undo 65 = .ok (.ireturn, 1) := by decide +kernel
theorem dX11_way_0 : decode cX11_way 0 = .ok (.aload_n 0, 1) := by decide +kernel
theorem dX11_way_1 : decode cX11_way 1 = .ok (.iconst 0, 1) := by decide +kernel
theorem dX11_way_2 : decode cX11_way 2 = .ok (.putfield 63, 3) := by decide +kernel
theorem dX11_way_5 : decode cX11_way 5 = .ok (.aload_n 0, 1) := by decide +kernel
theorem dX11_way_6 : decode cX11_way 6 = .ok (.iload_n 1, 1) := by decide +kernel
theorem dX11_way_7 : decode cX11_way 7 = .ok (.invokevirtual 186, 3) := by decide +kernel
theorem dX11_way_10 : decode cX11_way 10 = .ok (.ifCond .eq 11, 3) := by decide +kernel
theorem dX11_way_13 : decode cX11_way 13 = .ok (.aload_n 0, 1) := by decide +kernel
theorem dX11_way_14 : decode cX11_way 14 = .ok (.iload_n 2, 1) := by decide +kernel
theorem dX11_way_15 : decode cX11_way 15 = .ok (.invokevirtual 223, 3) := by decide +kernel
theorem dX11_way_18 : decode cX11_way 18 = .ok (.ifCond .ne 6, 3) := by decide +kernel
theorem dX11_way_21 : decode cX11_way 21 = .ok (.ldc 182, 2) := by decide +kernel
theorem dX11_way_23 : decode cX11_way 23 = .ok (.ireturn, 1) := by decide +kernel
theorem dX11_way_24 : decode cX11_way 24 = .ok (.iload_n 3, 1) := by decide +kernel
theorem dX11_way_25 : decode cX11_way 25 = .ok (.iconst 0, 1) := by decide +kernel
theorem dX11_way_26 : decode cX11_way 26 = .ok (.iconst 1, 1) := by decide +kernel
theorem dX11_way_27 : decode cX11_way 27 = .ok (.invokestatic 66, 3) := by decide +kernel
theorem dX11_way_30 : decode cX11_way 30 = .ok (.ifCond .ne 6, 3) := by decide +kernel
theorem dX11_way_33 : decode cX11_way 33 = .ok (.ldc 70, 2) := by decide +kernel
theorem dX11_way_35 : decode cX11_way 35 = .ok (.ireturn, 1) := by decide +kernel
theorem dX11_way_36 : decode cX11_way 36 = .ok (.aload_n 0, 1) := by decide +kernel
theorem dX11_way_37 : decode cX11_way 37 = .ok (.iload_n 1, 1) := by decide +kernel
theorem dX11_way_38 : decode cX11_way 38 = .ok (.invokevirtual 189, 3) := by decide +kernel
theorem dX11_way_41 : decode cX11_way 41 = .ok (.istore 4, 2) := by decide +kernel
theorem dX11_way_43 : decode cX11_way 43 = .ok (.aload_n 0, 1) := by decide +kernel
theorem dX11_way_44 : decode cX11_way 44 = .ok (.iload_n 2, 1) := by decide +kernel
theorem dX11_way_45 : decode cX11_way 45 = .ok (.iload 4, 2) := by decide +kernel
theorem dX11_way_47 : decode cX11_way 47 = .ok (.invokevirtual 154, 3) := by decide +kernel
theorem dX11_way_50 : decode cX11_way 50 = .ok (.aload_n 0, 1) := by decide +kernel
theorem dX11_way_51 : decode cX11_way 51 = .ok (.getfield 44, 3) := by decide +kernel
theorem dX11_way_54 : decode cX11_way 54 = .ok (.aload_n 0, 1) := by decide +kernel
theorem dX11_way_55 : decode cX11_way 55 = .ok (.getfield 19, 3) := by decide +kernel
theorem dX11_way_58 : decode cX11_way 58 = .ok (.iconst 0, 1) := by decide +kernel
theorem dX11_way_59 : decode cX11_way 59 = .ok (.iload_n 1, 1) := by decide +kernel
theorem dX11_way_60 : decode cX11_way 60 = .ok (.iadd, 1) := by decide +kernel
theorem dX11_way_61 : decode cX11_way 61 = .ok (.iaload, 1) := by decide +kernel
theorem dX11_way_62 : decode cX11_way 62 = .ok (.iaload, 1) := by decide +kernel
theorem dX11_way_63 : decode cX11_way 63 = .ok (.istore 5, 2) := by decide +kernel
theorem dX11_way_65 : decode cX11_way 65 = .ok (.iload 5, 2) := by decide +kernel
theorem dX11_way_67 : decode cX11_way 67 = .ok (.bipush 99, 2) := by decide +kernel
theorem dX11_way_69 : decode cX11_way 69 = .ok (.if_icmp .eq 7, 3) := by decide +kernel
theorem dX11_way_72 : decode cX11_way 72 = .ok (.iload_n 3, 1) := by decide +kernel
theorem dX11_way_73 : decode cX11_way 73 = .ok (.ifCond .ne 17, 3) := by decide +kernel
theorem dX11_way_76 : decode cX11_way 76 = .ok (.iload 5, 2) := by decide +kernel
theorem dX11_way_78 : decode cX11_way 78 = .ok (.bipush 99, 2) := by decide +kernel
theorem dX11_way_80 : decode cX11_way 80 = .ok (.if_icmp .ne 7, 3) := by decide +kernel
theorem dX11_way_83 : decode cX11_way 83 = .ok (.iconst (-1), 1) := by decide +kernel
theorem dX11_way_84 : decode cX11_way 84 = .ok (.goto 5, 3) := by decide +kernel
theorem dX11_way_87 : decode cX11_way 87 = .ok (.iload 5, 2) := by decide +kernel
theorem dX11_way_89 : decode cX11_way 89 = .ok (.ireturn, 1) := by decide +kernel
theorem dX11_way_90 : decode cX11_way 90 = .ok (.iconst 0, 1) := by decide +kernel
theorem dX11_way_91 : decode cX11_way 91 = .ok (.istore 6, 2) := by decide +kernel
theorem dX11_way_93 : decode cX11_way 93 = .ok (.iload 6, 2) := by decide +kernel
