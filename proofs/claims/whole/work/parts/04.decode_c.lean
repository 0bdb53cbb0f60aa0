theorem dX10_init_0 : decode cX10_init 0 = .ok (.aload_n 0, 1) := by decide +kernel
theorem dX10_init_1 : decode cX10_init 1 = .ok (.invokespecial 1, 3) := by decide +kernel
theorem dX10_init_4 : decode cX10_init 4 = .ok (.aload_n 0, 1) := by decide +kernel
theorem dX10_init_5 : decode cX10_init 5 = .ok (.new 7, 3) := by decide +kernel
theorem dX10_init_8 : decode cX10_init 8 = .ok (.dup, 1) := by decide +kernel
theorem dX10_init_9 : decode cX10_init 9 = .ok (.invokespecial 9, 3) := by decide +kernel
theorem dX10_init_12 : decode cX10_init 12 = .ok (.putfield 10, 3) := by decide +kernel
theorem dX10_init_15 : decode cX10_init 15 = .ok (.aload_n 0, 1) := by decide +kernel
theorem dX10_init_16 : decode cX10_init 16 = .ok (.new 16, 3) := by decide +kernel
theorem dX10_init_19 : decode cX10_init 19 = .ok (.dup, 1) := by decide +kernel
theorem dX10_init_20 : decode cX10_init 20 = .ok (.invokespecial 18, 3) := by decide +kernel
theorem dX10_init_23 : decode cX10_init 23 = .ok (.putfield 19, 3) := by decide +kernel
theorem dX10_init_26 : decode cX10_init 26 = .ok (.aload_n 0, 1) := by decide +kernel
theorem dX10_init_27 : decode cX10_init 27 = .ok (.aload_n 0, 1) := by decide +kernel
theorem dX10_init_28 : decode cX10_init 28 = .ok (.getfield 19, 3) := by decide +kernel
theorem dX10_init_31 : decode cX10_init 31 = .ok (.getfield 23, 3) := by decide +kernel
theorem dX10_init_34 : decode cX10_init 34 = .ok (.putfield 27, 3) := by decide +kernel
theorem dX10_init_37 : decode cX10_init 37 = .ok (.aload_n 0, 1) := by decide +kernel
theorem dX10_init_38 : decode cX10_init 38 = .ok (.aload_n 0, 1) := by decide +kernel
theorem dX10_init_39 : decode cX10_init 39 = .ok (.getfield 19, 3) := by decide +kernel
theorem dX10_init_42 : decode cX10_init 42 = .ok (.getfield 28, 3) := by decide +kernel
theorem dX10_init_45 : decode cX10_init 45 = .ok (.putfield 32, 3) := by decide +kernel
theorem dX10_init_48 : decode cX10_init 48 = .ok (.aload_n 0, 1) := by decide +kernel
theorem dX10_init_49 : decode cX10_init 49 = .ok (.new 33, 3) := by decide +kernel
theorem dX10_init_52 : decode cX10_init 52 = .ok (.dup, 1) := by decide +kernel
theorem dX10_init_53 : decode cX10_init 53 = .ok (.aload_n 0, 1) := by decide +kernel
theorem dX10_init_54 : decode cX10_init 54 = .ok (.getfield 19, 3) := by decide +kernel
theorem dX10_init_57 : decode cX10_init 57 = .ok (.getfield 23, 3) := by decide +kernel
theorem dX10_init_60 : decode cX10_init 60 = .ok (.invokespecial 35, 3) := by decide +kernel
theorem dX10_init_63 : decode cX10_init 63 = .ok (.putfield 38, 3) := by decide +kernel
theorem dX10_init_66 : decode cX10_init 66 = .ok (.aload_n 0, 1) := by decide +kernel
theorem dX10_init_67 : decode cX10_init 67 = .ok (.new 42, 3) := by decide +kernel
theorem dX10_init_70 : decode cX10_init 70 = .ok (.dup, 1) := by decide +kernel
theorem dX10_init_71 : decode cX10_init 71 = .ok (.aload_n 0, 1) := by decide +kernel
theorem dX10_init_72 : decode cX10_init 72 = .ok (.getfield 19, 3) := by decide +kernel
theorem dX10_init_75 : decode cX10_init 75 = .ok (.invokespecial 44, 3) := by decide +kernel
theorem dX10_init_78 : decode cX10_init 78 = .ok (.putfield 47, 3) := by decide +kernel
theorem dX10_init_81 : decode cX10_init 81 = .ok (.aload_n 0, 1) := by decide +kernel
theorem dX10_init_82 : decode cX10_init 82 = .ok (.new 51, 3) := by decide +kernel
theorem dX10_init_85 : decode cX10_init 85 = .ok (.dup, 1) := by decide +kernel
theorem dX10_init_86 : decode cX10_init 86 = .ok (.invokespecial 53, 3) := by decide +kernel
theorem dX10_init_89 : decode cX10_init 89 = .ok (.putfield 54, 3) := by decide +kernel
theorem dX10_init_92 : decode cX10_init 92 = .ok (.aload_n 0, 1) := by decide +kernel
theorem dX10_init_93 : decode cX10_init 93 = .ok (.new 58, 3) := by decide +kernel
theorem dX10_init_96 : decode cX10_init 96 = .ok (.dup, 1) := by decide +kernel
theorem dX10_init_97 : decode cX10_init 97 = .ok (.invokespecial 60, 3) := by decide +kernel
theorem dX10_init_100 : decode cX10_init 100 = .ok (.putfield 61, 3) := by decide +kernel
theorem dX10_init_103 : decode cX10_init 103 = .ok (.aload_n 0, 1) := by decide +kernel
theorem dX10_init_104 : decode cX10_init 104 = .ok (.new 65, 3) := by decide +kernel
theorem dX10_init_107 : decode cX10_init 107 = .ok (.dup, 1) := by decide +kernel
theorem dX10_init_108 : decode cX10_init 108 = .ok (.invokespecial 67, 3) := by decide +kernel
theorem dX10_init_111 : decode cX10_init 111 = .ok (.putfield 68, 3) := by decide +kernel
theorem dX10_init_114 : decode cX10_init 114 = .ok (.aload_n 0, 1) := by decide +kernel
theorem dX10_init_115 : decode cX10_init 115 = .ok (.iconst 2, 1) := by decide +kernel
theorem dX10_init_116 : decode cX10_init 116 = .ok (.anewarray 72, 3) := by decide +kernel
theorem dX10_init_119 : decode cX10_init 119 = .ok (.putfield 74, 3) := by decide +kernel
theorem dX10_init_122 : decode cX10_init 122 = .ok (.iconst 0, 1) := by decide +kernel
theorem dX10_init_123 : decode cX10_init 123 = .ok (.istore_n 1, 1) := by decide +kernel
theorem dX10_init_124 : decode cX10_init 124 = .ok (.iload_n 1, 1) := by decide +kernel
theorem dX10_init_125 : decode cX10_init 125 = .ok (.iconst 2, 1) := by decide +kernel
theorem dX10_init_126 : decode cX10_init 126 = .ok (.if_icmp .ge 22, 3) := by decide +kernel
theorem dX10_init_129 : decode cX10_init 129 = .ok (.aload_n 0, 1) := by decide +kernel
theorem dX10_init_130 : decode cX10_init 130 = .ok (.getfield 74, 3) := by decide +kernel
theorem dX10_init_133 : decode cX10_init 133 = .ok (.iload_n 1, 1) := by decide +kernel
theorem dX10_init_134 : decode cX10_init 134 = .ok (.new 72, 3) := by decide +kernel
theorem dX10_init_137 : decode cX10_init 137 = .ok (.dup, 1) := by decide +kernel
theorem dX10_init_138 : decode cX10_init 138 = .ok (.invokespecial 78, 3) := by decide +kernel
theorem dX10_init_141 : decode cX10_init 141 = .ok (.aastore, 1) := by decide +kernel
theorem dX10_init_142 : decode cX10_init 142 = .ok (.iinc 1 1, 3) := by decide +kernel
theorem dX10_init_145 : decode cX10_init 145 = .ok (.goto (-21), 3) := by decide +kernel
theorem dX10_init_148 : decode cX10_init 148 = .ok (.return_, 1) := by decide +kernel
theorem dX10_feed_0 : decode cX10_feed 0 = .ok (.iload_n 1, 1) := by decide +kernel
theorem dX10_feed_1 : decode cX10_feed 1 = .ok (.ifCond .lt 10, 3) := by decide +kernel
theorem dX10_feed_4 : decode cX10_feed 4 = .ok (.iload_n 1, 1) := by decide +kernel
theorem dX10_feed_5 : decode cX10_feed 5 = .ok (.sipush 255, 3) := by decide +kernel
theorem dX10_feed_8 : decode cX10_feed 8 = .ok (.if_icmp .le 6, 3) := by decide +kernel
theorem dX10_feed_11 : decode cX10_feed 11 = .ok (.ldc 79, 2) := by decide +kernel
theorem dX10_feed_13 : decode cX10_feed 13 = .ok (.ireturn, 1) := by decide +kernel
theorem dX10_feed_14 : decode cX10_feed 14 = .ok (.aload_n 0, 1) := by decide +kernel
theorem dX10_feed_15 : decode cX10_feed 15 = .ok (.getfield 10, 3) := by decide +kernel
theorem dX10_feed_18 : decode cX10_feed 18 = .ok (.getfield 80, 3) := by decide +kernel
theorem dX10_feed_21 : decode cX10_feed 21 = .ok (.sipush 240, 3) := by decide +kernel
theorem dX10_feed_24 : decode cX10_feed 24 = .ok (.if_icmp .lt 6, 3) := by decide +kernel
theorem dX10_feed_27 : decode cX10_feed 27 = .ok (.ldc 84, 2) := by decide +kernel
theorem dX10_feed_29 : decode cX10_feed 29 = .ok (.ireturn, 1) := by decide +kernel
theorem dX10_feed_30 : decode cX10_feed 30 = .ok (.aload_n 0, 1) := by decide +kernel
theorem dX10_feed_31 : decode cX10_feed 31 = .ok (.getfield 10, 3) := by decide +kernel
theorem dX10_feed_34 : decode cX10_feed 34 = .ok (.iload_n 1, 1) := by decide +kernel
theorem dX10_feed_35 : decode cX10_feed 35 = .ok (.invokevirtual 85, 3) := by decide +kernel
theorem dX10_feed_38 : decode cX10_feed 38 = .ok (.aload_n 0, 1) := by decide +kernel
theorem dX10_feed_39 : decode cX10_feed 39 = .ok (.getfield 10, 3) := by decide +kernel
theorem dX10_feed_42 : decode cX10_feed 42 = .ok (.getfield 80, 3) := by decide +kernel
theorem dX10_feed_45 : decode cX10_feed 45 = .ok (.ireturn, 1) := by decide +kernel
theorem dX10_town_0 : decode cX10_town 0 = .ok (.aload_n 0, 1) := by decide +kernel
theorem dX10_town_1 : decode cX10_town 1 = .ok (.getfield 10, 3) := by decide +kernel
theorem dX10_town_4 : decode cX10_town 4 = .ok (.invokevirtual 89, 3) := by decide +kernel
theorem dX10_town_7 : decode cX10_town 7 = .ok (.aload_n 0, 1) := by decide +kernel
theorem dX10_town_8 : decode cX10_town 8 = .ok (.getfield 10, 3) := by decide +kernel
theorem dX10_town_11 : decode cX10_town 11 = .ok (.iconst 0, 1) := by decide +kernel
theorem dX10_town_12 : decode cX10_town 12 = .ok (.putfield 80, 3) := by decide +kernel
theorem dX10_town_15 : decode cX10_town 15 = .ok (.aload_n 0, 1) := by decide +kernel
theorem dX10_town_16 : decode cX10_town 16 = .ok (.getfield 10, 3) := by decide +kernel
theorem dX10_town_19 : decode cX10_town 19 = .ok (.getfield 92, 3) := by decide +kernel
theorem dX10_town_22 : decode cX10_town 22 = .ok (.ifCond .eq 14, 3) := by decide +kernel
theorem dX10_town_25 : decode cX10_town 25 = .ok (.bipush (-10), 2) := by decide +kernel
theorem dX10_town_27 : decode cX10_town 27 = .ok (.aload_n 0, 1) := by decide +kernel
theorem dX10_town_28 : decode cX10_town 28 = .ok (.getfield 10, 3) := by decide +kernel
theorem dX10_town_31 : decode cX10_town 31 = .ok (.getfield 92, 3) := by decide +kernel
theorem dX10_town_34 : decode cX10_town 34 = .ok (.isub, 1) := by decide +kernel
theorem dX10_town_35 : decode cX10_town 35 = .ok (.ireturn, 1) := by decide +kernel
theorem dX10_town_36 : decode cX10_town 36 = .ok (.aload_n 0, 1) := by decide +kernel
theorem dX10_town_37 : decode cX10_town 37 = .ok (.getfield 27, 3) := by decide +kernel
theorem dX10_town_40 : decode cX10_town 40 = .ok (.aload_n 0, 1) := by decide +kernel
theorem dX10_town_41 : decode cX10_town 41 = .ok (.getfield 10, 3) := by decide +kernel
theorem dX10_town_44 : decode cX10_town 44 = .ok (.getfield 95, 3) := by decide +kernel
theorem dX10_town_47 : decode cX10_town 47 = .ok (.invokevirtual 98, 3) := by decide +kernel
theorem dX10_town_50 : decode cX10_town 50 = .ok (.aload_n 0, 1) := by decide +kernel
theorem dX10_town_51 : decode cX10_town 51 = .ok (.getfield 32, 3) := by decide +kernel
theorem dX10_town_54 : decode cX10_town 54 = .ok (.aload_n 0, 1) := by decide +kernel
theorem dX10_town_55 : decode cX10_town 55 = .ok (.getfield 27, 3) := by decide +kernel
theorem dX10_town_58 : decode cX10_town 58 = .ok (.invokevirtual 103, 3) := by decide +kernel
theorem dX10_town_61 : decode cX10_town 61 = .ok (.aload_n 0, 1) := by decide +kernel
theorem dX10_town_62 : decode cX10_town 62 = .ok (.getfield 54, 3) := by decide +kernel
theorem dX10_town_65 : decode cX10_town 65 = .ok (.invokevirtual 108, 3) := by decide +kernel
theorem dX10_town_68 : decode cX10_town 68 = .ok (.aload_n 0, 1) := by decide +kernel
theorem dX10_town_69 : decode cX10_town 69 = .ok (.getfield 61, 3) := by decide +kernel
theorem dX10_town_72 : decode cX10_town 72 = .ok (.iconst 0, 1) := by decide +kernel
theorem dX10_town_73 : decode cX10_town 73 = .ok (.putfield 111, 3) := by decide +kernel
theorem dX10_town_76 : decode cX10_town 76 = .ok (.aload_n 0, 1) := by decide +kernel
theorem dX10_town_77 : decode cX10_town 77 = .ok (.getfield 68, 3) := by decide +kernel
theorem dX10_town_80 : decode cX10_town 80 = .ok (.invokevirtual 114, 3) := by decide +kernel
theorem dX10_town_83 : decode cX10_town 83 = .ok (.iconst 0, 1) := by decide +kernel
theorem dX10_town_84 : decode cX10_town 84 = .ok (.istore_n 1, 1) := by decide +kernel
theorem dX10_town_85 : decode cX10_town 85 = .ok (.iload_n 1, 1) := by decide +kernel
theorem dX10_town_86 : decode cX10_town 86 = .ok (.iconst 2, 1) := by decide +kernel
theorem dX10_town_87 : decode cX10_town 87 = .ok (.if_icmp .ge 19, 3) := by decide +kernel
theorem dX10_town_90 : decode cX10_town 90 = .ok (.aload_n 0, 1) := by decide +kernel
theorem dX10_town_91 : decode cX10_town 91 = .ok (.getfield 74, 3) := by decide +kernel
theorem dX10_town_94 : decode cX10_town 94 = .ok (.iload_n 1, 1) := by decide +kernel
theorem dX10_town_95 : decode cX10_town 95 = .ok (.aaload, 1) := by decide +kernel
theorem dX10_town_96 : decode cX10_town 96 = .ok (.iconst 0, 1) := by decide +kernel
theorem dX10_town_97 : decode cX10_town 97 = .ok (.putfield 115, 3) := by decide +kernel
theorem dX10_town_100 : decode cX10_town 100 = .ok (.iinc 1 1, 3) := by decide +kernel
theorem dX10_town_103 : decode cX10_town 103 = .ok (.goto (-18), 3) := by decide +kernel
theorem dX10_town_106 : decode cX10_town 106 = .ok (.aload_n 0, 1) := by decide +kernel
theorem dX10_town_107 : decode cX10_town 107 = .ok (.getfield 27, 3) := by decide +kernel
theorem dX10_town_110 : decode cX10_town 110 = .ok (.getfield 119, 3) := by decide +kernel
theorem dX10_town_113 : decode cX10_town 113 = .ok (.ireturn, 1) := by decide +kernel
theorem dX10_fault_0 : decode cX10_fault 0 = .ok (.aload_n 0, 1) := by decide +kernel
theorem dX10_fault_1 : decode cX10_fault 1 = .ok (.getfield 10, 3) := by decide +kernel
theorem dX10_fault_4 : decode cX10_fault 4 = .ok (.getfield 122, 3) := by decide +kernel
theorem dX10_fault_7 : decode cX10_fault 7 = .ok (.ireturn, 1) := by decide +kernel
theorem dX10_told_0 : decode cX10_told 0 = .ok (.iload_n 1, 1) := by decide +kernel
theorem dX10_told_1 : decode cX10_told 1 = .ok (.tableswitch 195 0 14 #[75, 83, 91, 99, 107, 115, 123, 131, 139, 147, 155, 163, 171, 179, 187], 75) := by decide +kernel
theorem dX10_told_76 : decode cX10_told 76 = .ok (.aload_n 0, 1) := by decide +kernel
theorem dX10_told_77 : decode cX10_told 77 = .ok (.getfield 27, 3) := by decide +kernel
theorem dX10_told_80 : decode cX10_told 80 = .ok (.getfield 125, 3) := by decide +kernel
theorem dX10_told_83 : decode cX10_told 83 = .ok (.ireturn, 1) := by decide +kernel
theorem dX10_told_84 : decode cX10_told 84 = .ok (.aload_n 0, 1) := by decide +kernel
theorem dX10_told_85 : decode cX10_told 85 = .ok (.getfield 27, 3) := by decide +kernel
theorem dX10_told_88 : decode cX10_told 88 = .ok (.getfield 119, 3) := by decide +kernel
theorem dX10_told_91 : decode cX10_told 91 = .ok (.ireturn, 1) := by decide +kernel
theorem dX10_told_92 : decode cX10_told 92 = .ok (.aload_n 0, 1) := by decide +kernel
theorem dX10_told_93 : decode cX10_told 93 = .ok (.getfield 27, 3) := by decide +kernel
theorem dX10_told_96 : decode cX10_told 96 = .ok (.getfield 128, 3) := by decide +kernel
theorem dX10_told_99 : decode cX10_told 99 = .ok (.ireturn, 1) := by decide +kernel
theorem dX10_told_100 : decode cX10_told 100 = .ok (.aload_n 0, 1) := by decide +kernel
theorem dX10_told_101 : decode cX10_told 101 = .ok (.getfield 27, 3) := by decide +kernel
theorem dX10_told_104 : decode cX10_told 104 = .ok (.getfield 131, 3) := by decide +kernel
theorem dX10_told_107 : decode cX10_told 107 = .ok (.ireturn, 1) := by decide +kernel
theorem dX10_told_108 : decode cX10_told 108 = .ok (.aload_n 0, 1) := by decide +kernel
theorem dX10_told_109 : decode cX10_told 109 = .ok (.getfield 10, 3) := by decide +kernel
theorem dX10_told_112 : decode cX10_told 112 = .ok (.getfield 80, 3) := by decide +kernel
theorem dX10_told_115 : decode cX10_told 115 = .ok (.ireturn, 1) := by decide +kernel
theorem dX10_told_116 : decode cX10_told 116 = .ok (.aload_n 0, 1) := by decide +kernel
theorem dX10_told_117 : decode cX10_told 117 = .ok (.getfield 32, 3) := by decide +kernel
theorem dX10_told_120 : decode cX10_told 120 = .ok (.getfield 134, 3) := by decide +kernel
theorem dX10_told_123 : decode cX10_told 123 = .ok (.ireturn, 1) := by decide +kernel
theorem dX10_told_124 : decode cX10_told 124 = .ok (.aload_n 0, 1) := by decide +kernel
theorem dX10_told_125 : decode cX10_told 125 = .ok (.getfield 19, 3) := by decide +kernel
theorem dX10_told_128 : decode cX10_told 128 = .ok (.invokevirtual 137, 3) := by decide +kernel
theorem dX10_told_131 : decode cX10_told 131 = .ok (.ireturn, 1) := by decide +kernel
theorem dX10_told_132 : decode cX10_told 132 = .ok (.aload_n 0, 1) := by decide +kernel
theorem dX10_told_133 : decode cX10_told 133 = .ok (.getfield 38, 3) := by decide +kernel
theorem dX10_told_136 : decode cX10_told 136 = .ok (.invokevirtual 141, 3) := by decide +kernel
theorem dX10_told_139 : decode cX10_told 139 = .ok (.ireturn, 1) := by decide +kernel
theorem dX10_told_140 : decode cX10_told 140 = .ok (.aload_n 0, 1) := by decide +kernel
theorem dX10_told_141 : decode cX10_told 141 = .ok (.getfield 38, 3) := by decide +kernel
theorem dX10_told_144 : decode cX10_told 144 = .ok (.invokevirtual 144, 3) := by decide +kernel
theorem dX10_told_147 : decode cX10_told 147 = .ok (.ireturn, 1) := by decide +kernel
theorem dX10_told_148 : decode cX10_told 148 = .ok (.aload_n 0, 1) := by decide +kernel
theorem dX10_told_149 : decode cX10_told 149 = .ok (.getfield 19, 3) := by decide +kernel
theorem dX10_told_152 : decode cX10_told 152 = .ok (.invokevirtual 147, 3) := by decide +kernel
theorem dX10_told_155 : decode cX10_told 155 = .ok (.ireturn, 1) := by decide +kernel
theorem dX10_told_156 : decode cX10_told 156 = .ok (.aload_n 0, 1) := by decide +kernel
theorem dX10_told_157 : decode cX10_told 157 = .ok (.getfield 19, 3) := by decide +kernel
theorem dX10_told_160 : decode cX10_told 160 = .ok (.invokevirtual 150, 3) := by decide +kernel
theorem dX10_told_163 : decode cX10_told 163 = .ok (.ireturn, 1) := by decide +kernel
theorem dX10_told_164 : decode cX10_told 164 = .ok (.aload_n 0, 1) := by decide +kernel
theorem dX10_told_165 : decode cX10_told 165 = .ok (.getfield 32, 3) := by decide +kernel
theorem dX10_told_168 : decode cX10_told 168 = .ok (.getfield 153, 3) := by decide +kernel
theorem dX10_told_171 : decode cX10_told 171 = .ok (.ireturn, 1) := by decide +kernel
theorem dX10_told_172 : decode cX10_told 172 = .ok (.aload_n 0, 1) := by decide +kernel
theorem dX10_told_173 : decode cX10_told 173 = .ok (.getfield 54, 3) := by decide +kernel
theorem dX10_told_176 : decode cX10_told 176 = .ok (.getfield 156, 3) := by decide +kernel
theorem dX10_told_179 : decode cX10_told 179 = .ok (.ireturn, 1) := by decide +kernel
theorem dX10_told_180 : decode cX10_told 180 = .ok (.aload_n 0, 1) := by decide +kernel
theorem dX10_told_181 : decode cX10_told 181 = .ok (.getfield 61, 3) := by decide +kernel
theorem dX10_told_184 : decode cX10_told 184 = .ok (.getfield 111, 3) := by decide +kernel
theorem dX10_told_187 : decode cX10_told 187 = .ok (.ireturn, 1) := by decide +kernel
theorem dX10_told_188 : decode cX10_told 188 = .ok (.aload_n 0, 1) := by decide +kernel
theorem dX10_told_189 : decode cX10_told 189 = .ok (.getfield 68, 3) := by decide +kernel
theorem dX10_told_192 : decode cX10_told 192 = .ok (.getfield 159, 3) := by decide +kernel
theorem dX10_told_195 : decode cX10_told 195 = .ok (.ireturn, 1) := by decide +kernel
theorem dX10_told_196 : decode cX10_told 196 = .ok (.ldc 79, 2) := by decide +kernel
theorem dX10_told_198 : decode cX10_told 198 = .ok (.ireturn, 1) := by decide +kernel
theorem dX10_bridge_0 : decode cX10_bridge 0 = .ok (.aload_n 0, 1) := by decide +kernel
theorem dX10_bridge_1 : decode cX10_bridge 1 = .ok (.getfield 27, 3) := by decide +kernel
theorem dX10_bridge_4 : decode cX10_bridge 4 = .ok (.iload_n 1, 1) := by decide +kernel
theorem dX10_bridge_5 : decode cX10_bridge 5 = .ok (.invokevirtual 160, 3) := by decide +kernel
theorem dX10_bridge_8 : decode cX10_bridge 8 = .ok (.ifCond .ne 6, 3) := by decide +kernel
theorem dX10_bridge_11 : decode cX10_bridge 11 = .ok (.ldc 164, 2) := by decide +kernel
theorem dX10_bridge_13 : decode cX10_bridge 13 = .ok (.ireturn, 1) := by decide +kernel
theorem dX10_bridge_14 : decode cX10_bridge 14 = .ok (.iload_n 2, 1) := by decide +kernel
theorem dX10_bridge_15 : decode cX10_bridge 15 = .ok (.tableswitch 95 0 5 #[37, 47, 57, 67, 77, 86], 37) := by decide +kernel
theorem dX10_bridge_52 : decode cX10_bridge 52 = .ok (.aload_n 0, 1) := by decide +kernel
theorem dX10_bridge_53 : decode cX10_bridge 53 = .ok (.getfield 27, 3) := by decide +kernel
theorem dX10_bridge_56 : decode cX10_bridge 56 = .ok (.getfield 165, 3) := by decide +kernel
theorem dX10_bridge_59 : decode cX10_bridge 59 = .ok (.iload_n 1, 1) := by decide +kernel
theorem dX10_bridge_60 : decode cX10_bridge 60 = .ok (.iaload, 1) := by decide +kernel
theorem dX10_bridge_61 : decode cX10_bridge 61 = .ok (.ireturn, 1) := by decide +kernel
theorem dX10_bridge_62 : decode cX10_bridge 62 = .ok (.aload_n 0, 1) := by decide +kernel
theorem dX10_bridge_63 : decode cX10_bridge 63 = .ok (.getfield 27, 3) := by decide +kernel
theorem dX10_bridge_66 : decode cX10_bridge 66 = .ok (.getfield 169, 3) := by decide +kernel
theorem dX10_bridge_69 : decode cX10_bridge 69 = .ok (.iload_n 1, 1) := by decide +kernel
theorem dX10_bridge_70 : decode cX10_bridge 70 = .ok (.iaload, 1) := by decide +kernel
theorem dX10_bridge_71 : decode cX10_bridge 71 = .ok (.ireturn, 1) := by decide +kernel
theorem dX10_bridge_72 : decode cX10_bridge 72 = .ok (.aload_n 0, 1) := by decide +kernel
theorem dX10_bridge_73 : decode cX10_bridge 73 = .ok (.getfield 27, 3) := by decide +kernel
theorem dX10_bridge_76 : decode cX10_bridge 76 = .ok (.getfield 172, 3) := by decide +kernel
theorem dX10_bridge_79 : decode cX10_bridge 79 = .ok (.iload_n 1, 1) := by decide +kernel
theorem dX10_bridge_80 : decode cX10_bridge 80 = .ok (.iaload, 1) := by decide +kernel
theorem dX10_bridge_81 : decode cX10_bridge 81 = .ok (.ireturn, 1) := by decide +kernel
theorem dX10_bridge_82 : decode cX10_bridge 82 = .ok (.aload_n 0, 1) := by decide +kernel
theorem dX10_bridge_83 : decode cX10_bridge 83 = .ok (.getfield 27, 3) := by decide +kernel
theorem dX10_bridge_86 : decode cX10_bridge 86 = .ok (.getfield 175, 3) := by decide +kernel
theorem dX10_bridge_89 : decode cX10_bridge 89 = .ok (.iload_n 1, 1) := by decide +kernel
theorem dX10_bridge_90 : decode cX10_bridge 90 = .ok (.iaload, 1) := by decide +kernel
theorem dX10_bridge_91 : decode cX10_bridge 91 = .ok (.ireturn, 1) := by decide +kernel
theorem dX10_bridge_92 : decode cX10_bridge 92 = .ok (.aload_n 0, 1) := by decide +kernel
theorem dX10_bridge_93 : decode cX10_bridge 93 = .ok (.getfield 19, 3) := by decide +kernel
theorem dX10_bridge_96 : decode cX10_bridge 96 = .ok (.iload_n 1, 1) := by decide +kernel
theorem dX10_bridge_97 : decode cX10_bridge 97 = .ok (.invokevirtual 178, 3) := by decide +kernel
theorem dX10_bridge_100 : decode cX10_bridge 100 = .ok (.ireturn, 1) := by decide +kernel
theorem dX10_bridge_101 : decode cX10_bridge 101 = .ok (.aload_n 0, 1) := by decide +kernel
theorem dX10_bridge_102 : decode cX10_bridge 102 = .ok (.getfield 19, 3) := by decide +kernel
theorem dX10_bridge_105 : decode cX10_bridge 105 = .ok (.iload_n 1, 1) := by decide +kernel
theorem dX10_bridge_106 : decode cX10_bridge 106 = .ok (.invokevirtual 182, 3) := by decide +kernel
theorem dX10_bridge_109 : decode cX10_bridge 109 = .ok (.ireturn, 1) := by decide +kernel
theorem dX10_bridge_110 : decode cX10_bridge 110 = .ok (.ldc 79, 2) := by decide +kernel
theorem dX10_bridge_112 : decode cX10_bridge 112 = .ok (.ireturn, 1) := by decide +kernel
theorem dX10_keeper_0 : decode cX10_keeper 0 = .ok (.aload_n 0, 1) := by decide +kernel
theorem dX10_keeper_1 : decode cX10_keeper 1 = .ok (.getfield 27, 3) := by decide +kernel
theorem dX10_keeper_4 : decode cX10_keeper 4 = .ok (.iload_n 1, 1) := by decide +kernel
theorem dX10_keeper_5 : decode cX10_keeper 5 = .ok (.invokevirtual 185, 3) := by decide +kernel
theorem dX10_keeper_8 : decode cX10_keeper 8 = .ok (.ifCond .ne 6, 3) := by decide +kernel
theorem dX10_keeper_11 : decode cX10_keeper 11 = .ok (.ldc 164, 2) := by decide +kernel
theorem dX10_keeper_13 : decode cX10_keeper 13 = .ok (.ireturn, 1) := by decide +kernel
theorem dX10_keeper_14 : decode cX10_keeper 14 = .ok (.iload_n 2, 1) := by decide +kernel
theorem dX10_keeper_15 : decode cX10_keeper 15 = .ok (.tableswitch 82 0 4 #[33, 43, 53, 63, 73], 33) := by decide +kernel
theorem dX10_keeper_48 : decode cX10_keeper 48 = .ok (.aload_n 0, 1) := by decide +kernel
theorem dX10_keeper_49 : decode cX10_keeper 49 = .ok (.getfield 27, 3) := by decide +kernel
theorem dX10_keeper_52 : decode cX10_keeper 52 = .ok (.getfield 188, 3) := by decide +kernel
theorem dX10_keeper_55 : decode cX10_keeper 55 = .ok (.iload_n 1, 1) := by decide +kernel
theorem dX10_keeper_56 : decode cX10_keeper 56 = .ok (.iaload, 1) := by decide +kernel
theorem dX10_keeper_57 : decode cX10_keeper 57 = .ok (.ireturn, 1) := by decide +kernel
theorem dX10_keeper_58 : decode cX10_keeper 58 = .ok (.aload_n 0, 1) := by decide +kernel
theorem dX10_keeper_59 : decode cX10_keeper 59 = .ok (.getfield 32, 3) := by decide +kernel
theorem dX10_keeper_62 : decode cX10_keeper 62 = .ok (.getfield 191, 3) := by decide +kernel
theorem dX10_keeper_65 : decode cX10_keeper 65 = .ok (.iload_n 1, 1) := by decide +kernel
theorem dX10_keeper_66 : decode cX10_keeper 66 = .ok (.iaload, 1) := by decide +kernel
theorem dX10_keeper_67 : decode cX10_keeper 67 = .ok (.ireturn, 1) := by decide +kernel
theorem dX10_keeper_68 : decode cX10_keeper 68 = .ok (.aload_n 0, 1) := by decide +kernel
theorem dX10_keeper_69 : decode cX10_keeper 69 = .ok (.getfield 32, 3) := by decide +kernel
theorem dX10_keeper_72 : decode cX10_keeper 72 = .ok (.getfield 194, 3) := by decide +kernel
theorem dX10_keeper_75 : decode cX10_keeper 75 = .ok (.iload_n 1, 1) := by decide +kernel
theorem dX10_keeper_76 : decode cX10_keeper 76 = .ok (.iaload, 1) := by decide +kernel
theorem dX10_keeper_77 : decode cX10_keeper 77 = .ok (.ireturn, 1) := by decide +kernel
theorem dX10_keeper_78 : decode cX10_keeper 78 = .ok (.aload_n 0, 1) := by decide +kernel
theorem dX10_keeper_79 : decode cX10_keeper 79 = .ok (.getfield 32, 3) := by decide +kernel
theorem dX10_keeper_82 : decode cX10_keeper 82 = .ok (.getfield 197, 3) := by decide +kernel
theorem dX10_keeper_85 : decode cX10_keeper 85 = .ok (.iload_n 1, 1) := by decide +kernel
theorem dX10_keeper_86 : decode cX10_keeper 86 = .ok (.iaload, 1) := by decide +kernel
theorem dX10_keeper_87 : decode cX10_keeper 87 = .ok (.ireturn, 1) := by decide +kernel
theorem dX10_keeper_88 : decode cX10_keeper 88 = .ok (.aload_n 0, 1) := by decide +kernel
theorem dX10_keeper_89 : decode cX10_keeper 89 = .ok (.getfield 19, 3) := by decide +kernel
theorem dX10_keeper_92 : decode cX10_keeper 92 = .ok (.iload_n 1, 1) := by decide +kernel
theorem dX10_keeper_93 : decode cX10_keeper 93 = .ok (.invokevirtual 200, 3) := by decide +kernel
theorem dX10_keeper_96 : decode cX10_keeper 96 = .ok (.ireturn, 1) := by decide +kernel
theorem dX10_keeper_97 : decode cX10_keeper 97 = .ok (.ldc 79, 2) := by decide +kernel
theorem dX10_keeper_99 : decode cX10_keeper 99 = .ok (.ireturn, 1) := by decide +kernel
theorem dX10_jumper_0 : decode cX10_jumper 0 = .ok (.aload_n 0, 1) := by decide +kernel
theorem dX10_jumper_1 : decode cX10_jumper 1 = .ok (.getfield 27, 3) := by decide +kernel
theorem dX10_jumper_4 : decode cX10_jumper 4 = .ok (.iload_n 1, 1) := by decide +kernel
theorem dX10_jumper_5 : decode cX10_jumper 5 = .ok (.invokevirtual 203, 3) := by decide +kernel
theorem dX10_jumper_8 : decode cX10_jumper 8 = .ok (.ifCond .ne 6, 3) := by decide +kernel
theorem dX10_jumper_11 : decode cX10_jumper 11 = .ok (.ldc 164, 2) := by decide +kernel
theorem dX10_jumper_13 : decode cX10_jumper 13 = .ok (.ireturn, 1) := by decide +kernel
theorem dX10_jumper_14 : decode cX10_jumper 14 = .ok (.iload_n 2, 1) := by decide +kernel
theorem dX10_jumper_15 : decode cX10_jumper 15 = .ok (.tableswitch 96 0 5 #[37, 47, 57, 67, 77, 87], 37) := by decide +kernel
theorem dX10_jumper_52 : decode cX10_jumper 52 = .ok (.aload_n 0, 1) := by decide +kernel
theorem dX10_jumper_53 : decode cX10_jumper 53 = .ok (.getfield 27, 3) := by decide +kernel
theorem dX10_jumper_56 : decode cX10_jumper 56 = .ok (.getfield 206, 3) := by decide +kernel
theorem dX10_jumper_59 : decode cX10_jumper 59 = .ok (.iload_n 1, 1) := by decide +kernel
theorem dX10_jumper_60 : decode cX10_jumper 60 = .ok (.iaload, 1) := by decide +kernel
theorem dX10_jumper_61 : decode cX10_jumper 61 = .ok (.ireturn, 1) := by decide +kernel
theorem dX10_jumper_62 : decode cX10_jumper 62 = .ok (.aload_n 0, 1) := by decide +kernel
theorem dX10_jumper_63 : decode cX10_jumper 63 = .ok (.getfield 32, 3) := by decide +kernel
theorem dX10_jumper_66 : decode cX10_jumper 66 = .ok (.getfield 209, 3) := by decide +kernel
theorem dX10_jumper_69 : decode cX10_jumper 69 = .ok (.iload_n 1, 1) := by decide +kernel
theorem dX10_jumper_70 : decode cX10_jumper 70 = .ok (.iaload, 1) := by decide +kernel
theorem dX10_jumper_71 : decode cX10_jumper 71 = .ok (.ireturn, 1) := by decide +kernel
theorem dX10_jumper_72 : decode cX10_jumper 72 = .ok (.aload_n 0, 1) := by decide +kernel
theorem dX10_jumper_73 : decode cX10_jumper 73 = .ok (.getfield 32, 3) := by decide +kernel
theorem dX10_jumper_76 : decode cX10_jumper 76 = .ok (.getfield 212, 3) := by decide +kernel
theorem dX10_jumper_79 : decode cX10_jumper 79 = .ok (.iload_n 1, 1) := by decide +kernel
theorem dX10_jumper_80 : decode cX10_jumper 80 = .ok (.iaload, 1) := by decide +kernel
theorem dX10_jumper_81 : decode cX10_jumper 81 = .ok (.ireturn, 1) := by decide +kernel
theorem dX10_jumper_82 : decode cX10_jumper 82 = .ok (.aload_n 0, 1) := by decide +kernel
theorem dX10_jumper_83 : decode cX10_jumper 83 = .ok (.getfield 32, 3) := by decide +kernel
theorem dX10_jumper_86 : decode cX10_jumper 86 = .ok (.getfield 215, 3) := by decide +kernel
theorem dX10_jumper_89 : decode cX10_jumper 89 = .ok (.iload_n 1, 1) := by decide +kernel
theorem dX10_jumper_90 : decode cX10_jumper 90 = .ok (.iaload, 1) := by decide +kernel
theorem dX10_jumper_91 : decode cX10_jumper 91 = .ok (.ireturn, 1) := by decide +kernel
theorem dX10_jumper_92 : decode cX10_jumper 92 = .ok (.aload_n 0, 1) := by decide +kernel
theorem dX10_jumper_93 : decode cX10_jumper 93 = .ok (.getfield 32, 3) := by decide +kernel
theorem dX10_jumper_96 : decode cX10_jumper 96 = .ok (.getfield 218, 3) := by decide +kernel
theorem dX10_jumper_99 : decode cX10_jumper 99 = .ok (.iload_n 1, 1) := by decide +kernel
theorem dX10_jumper_100 : decode cX10_jumper 100 = .ok (.iaload, 1) := by decide +kernel
theorem dX10_jumper_101 : decode cX10_jumper 101 = .ok (.ireturn, 1) := by decide +kernel
theorem dX10_jumper_102 : decode cX10_jumper 102 = .ok (.aload_n 0, 1) := by decide +kernel
theorem dX10_jumper_103 : decode cX10_jumper 103 = .ok (.getfield 19, 3) := by decide +kernel
theorem dX10_jumper_106 : decode cX10_jumper 106 = .ok (.iload_n 1, 1) := by decide +kernel
theorem dX10_jumper_107 : decode cX10_jumper 107 = .ok (.invokevirtual 221, 3) := by decide +kernel
theorem dX10_jumper_110 : decode cX10_jumper 110 = .ok (.ireturn, 1) := by decide +kernel
theorem dX10_jumper_111 : decode cX10_jumper 111 = .ok (.ldc 79, 2) := by decide +kernel
theorem dX10_jumper_113 : decode cX10_jumper 113 = .ok (.ireturn, 1) := by decide +kernel
theorem dX10_flight_0 : decode cX10_flight 0 = .ok (.aload_n 0, 1) := by decide +kernel
theorem dX10_flight_1 : decode cX10_flight 1 = .ok (.getfield 27, 3) := by decide +kernel
theorem dX10_flight_4 : decode cX10_flight 4 = .ok (.iload_n 1, 1) := by decide +kernel
theorem dX10_flight_5 : decode cX10_flight 5 = .ok (.invokevirtual 203, 3) := by decide +kernel
theorem dX10_flight_8 : decode cX10_flight 8 = .ok (.ifCond .eq 14, 3) := by decide +kernel
theorem dX10_flight_11 : decode cX10_flight 11 = .ok (.aload_n 0, 1) := by decide +kernel
theorem dX10_flight_12 : decode cX10_flight 12 = .ok (.getfield 27, 3) := by decide +kernel
theorem dX10_flight_15 : decode cX10_flight 15 = .ok (.iload_n 2, 1) := by decide +kernel
theorem dX10_flight_16 : decode cX10_flight 16 = .ok (.invokevirtual 160, 3) := by decide +kernel
theorem dX10_flight_19 : decode cX10_flight 19 = .ok (.ifCond .ne 6, 3) := by decide +kernel
theorem dX10_flight_22 : decode cX10_flight 22 = .ok (.ldc 164, 2) := by decide +kernel
theorem dX10_flight_24 : decode cX10_flight 24 = .ok (.ireturn, 1) := by decide +kernel
theorem dX10_flight_25 : decode cX10_flight 25 = .ok (.aload_n 0, 1) := by decide +kernel
theorem dX10_flight_26 : decode cX10_flight 26 = .ok (.getfield 19, 3) := by decide +kernel
theorem dX10_flight_29 : decode cX10_flight 29 = .ok (.iload_n 1, 1) := by decide +kernel
theorem dX10_flight_30 : decode cX10_flight 30 = .ok (.iload_n 2, 1) := by decide +kernel
theorem dX10_flight_31 : decode cX10_flight 31 = .ok (.invokevirtual 224, 3) := by decide +kernel
theorem dX10_flight_34 : decode cX10_flight 34 = .ok (.ireturn, 1) := by decide +kernel
theorem dX10_roll_0 : decode cX10_roll 0 = .ok (.iload_n 2, 1) := by decide +kernel
theorem dX10_roll_1 : decode cX10_roll 1 = .ok (.ifCond .lt 8, 3) := by decide +kernel
theorem dX10_roll_4 : decode cX10_roll 4 = .ok (.iload_n 2, 1) := by decide +kernel
theorem dX10_roll_5 : decode cX10_roll 5 = .ok (.iconst 3, 1) := by decide +kernel
theorem dX10_roll_6 : decode cX10_roll 6 = .ok (.if_icmp .le 6, 3) := by decide +kernel
theorem dX10_roll_9 : decode cX10_roll 9 = .ok (.ldc 79, 2) := by decide +kernel
theorem dX10_roll_11 : decode cX10_roll 11 = .ok (.ireturn, 1) := by decide +kernel
theorem dX10_roll_12 : decode cX10_roll 12 = .ok (.aload_n 0, 1) := by decide +kernel
theorem dX10_roll_13 : decode cX10_roll 13 = .ok (.getfield 32, 3) := by decide +kernel
theorem dX10_roll_16 : decode cX10_roll 16 = .ok (.iload_n 1, 1) := by decide +kernel
theorem dX10_roll_17 : decode cX10_roll 17 = .ok (.iload_n 2, 1) := by decide +kernel
theorem dX10_roll_18 : decode cX10_roll 18 = .ok (.invokevirtual 228, 3) := by decide +kernel
theorem dX10_roll_21 : decode cX10_roll 21 = .ok (.ireturn, 1) := by decide +kernel
theorem dX10_leap_0 : decode cX10_leap 0 = .ok (.aload_n 0, 1) := by decide +kernel
theorem dX10_leap_1 : decode cX10_leap 1 = .ok (.getfield 27, 3) := by decide +kernel
theorem dX10_leap_4 : decode cX10_leap 4 = .ok (.iload_n 1, 1) := by decide +kernel
theorem dX10_leap_5 : decode cX10_leap 5 = .ok (.invokevirtual 203, 3) := by decide +kernel
theorem dX10_leap_8 : decode cX10_leap 8 = .ok (.ifCond .eq 14, 3) := by decide +kernel
theorem dX10_leap_11 : decode cX10_leap 11 = .ok (.aload_n 0, 1) := by decide +kernel
theorem dX10_leap_12 : decode cX10_leap 12 = .ok (.getfield 27, 3) := by decide +kernel
theorem dX10_leap_15 : decode cX10_leap 15 = .ok (.iload_n 2, 1) := by decide +kernel
theorem dX10_leap_16 : decode cX10_leap 16 = .ok (.invokevirtual 160, 3) := by decide +kernel
theorem dX10_leap_19 : decode cX10_leap 19 = .ok (.ifCond .ne 6, 3) := by decide +kernel
theorem dX10_leap_22 : decode cX10_leap 22 = .ok (.ldc 164, 2) := by decide +kernel
theorem dX10_leap_24 : decode cX10_leap 24 = .ok (.ireturn, 1) := by decide +kernel
theorem dX10_leap_25 : decode cX10_leap 25 = .ok (.aload_n 0, 1) := by decide +kernel
theorem dX10_leap_26 : decode cX10_leap 26 = .ok (.getfield 27, 3) := by decide +kernel
theorem dX10_leap_29 : decode cX10_leap 29 = .ok (.iload_n 2, 1) := by decide +kernel
theorem dX10_leap_30 : decode cX10_leap 30 = .ok (.aload_n 0, 1) := by decide +kernel
theorem dX10_leap_31 : decode cX10_leap 31 = .ok (.getfield 32, 3) := by decide +kernel
theorem dX10_leap_34 : decode cX10_leap 34 = .ok (.getfield 209, 3) := by decide +kernel
theorem dX10_leap_37 : decode cX10_leap 37 = .ok (.iload_n 1, 1) := by decide +kernel
theorem dX10_leap_38 : decode cX10_leap 38 = .ok (.iaload, 1) := by decide +kernel
theorem dX10_leap_39 : decode cX10_leap 39 = .ok (.invokevirtual 231, 3) := by decide +kernel
theorem dX10_leap_42 : decode cX10_leap 42 = .ok (.ifCond .ne 6, 3) := by decide +kernel
theorem dX10_leap_45 : decode cX10_leap 45 = .ok (.ldc 235, 2) := by decide +kernel
theorem dX10_leap_47 : decode cX10_leap 47 = .ok (.ireturn, 1) := by decide +kernel
theorem dX10_leap_48 : decode cX10_leap 48 = .ok (.aload_n 0, 1) := by decide +kernel
theorem dX10_leap_49 : decode cX10_leap 49 = .ok (.getfield 68, 3) := by decide +kernel
theorem dX10_leap_52 : decode cX10_leap 52 = .ok (.aload_n 0, 1) := by decide +kernel
theorem dX10_leap_53 : decode cX10_leap 53 = .ok (.getfield 32, 3) := by decide +kernel
theorem dX10_leap_56 : decode cX10_leap 56 = .ok (.invokevirtual 236, 3) := by decide +kernel
theorem dX10_leap_59 : decode cX10_leap 59 = .ok (.aload_n 0, 1) := by decide +kernel
theorem dX10_leap_60 : decode cX10_leap 60 = .ok (.getfield 19, 3) := by decide +kernel
theorem dX10_leap_63 : decode cX10_leap 63 = .ok (.iload_n 1, 1) := by decide +kernel
theorem dX10_leap_64 : decode cX10_leap 64 = .ok (.iload_n 2, 1) := by decide +kernel
theorem dX10_leap_65 : decode cX10_leap 65 = .ok (.iconst 0, 1) := by decide +kernel
theorem dX10_leap_66 : decode cX10_leap 66 = .ok (.invokevirtual 240, 3) := by decide +kernel
theorem dX10_leap_69 : decode cX10_leap 69 = .ok (.ifCond .eq 7, 3) := by decide +kernel
theorem dX10_leap_72 : decode cX10_leap 72 = .ok (.iconst 1, 1) := by decide +kernel
theorem dX10_leap_73 : decode cX10_leap 73 = .ok (.goto 4, 3) := by decide +kernel
theorem dX10_leap_76 : decode cX10_leap 76 = .ok (.iconst 0, 1) := by decide +kernel
theorem dX10_leap_77 : decode cX10_leap 77 = .ok (.ireturn, 1) := by decide +kernel
theorem dX10_post_0 : decode cX10_post 0 = .ok (.aload_n 0, 1) := by decide +kernel
theorem dX10_post_1 : decode cX10_post 1 = .ok (.getfield 27, 3) := by decide +kernel
theorem dX10_post_4 : decode cX10_post 4 = .ok (.iload_n 1, 1) := by decide +kernel
theorem dX10_post_5 : decode cX10_post 5 = .ok (.invokevirtual 185, 3) := by decide +kernel
theorem dX10_post_8 : decode cX10_post 8 = .ok (.ifCond .eq 14, 3) := by decide +kernel
theorem dX10_post_11 : decode cX10_post 11 = .ok (.aload_n 0, 1) := by decide +kernel
theorem dX10_post_12 : decode cX10_post 12 = .ok (.getfield 27, 3) := by decide +kernel
theorem dX10_post_15 : decode cX10_post 15 = .ok (.iload_n 2, 1) := by decide +kernel
theorem dX10_post_16 : decode cX10_post 16 = .ok (.invokevirtual 160, 3) := by decide +kernel
theorem dX10_post_19 : decode cX10_post 19 = .ok (.ifCond .ne 6, 3) := by decide +kernel
theorem dX10_post_22 : decode cX10_post 22 = .ok (.ldc 164, 2) := by decide +kernel
theorem dX10_post_24 : decode cX10_post 24 = .ok (.ireturn, 1) := by decide +kernel
theorem dX10_post_25 : decode cX10_post 25 = .ok (.aload_n 0, 1) := by decide +kernel
theorem dX10_post_26 : decode cX10_post 26 = .ok (.getfield 19, 3) := by decide +kernel
theorem dX10_post_29 : decode cX10_post 29 = .ok (.iload_n 2, 1) := by decide +kernel
theorem dX10_post_30 : decode cX10_post 30 = .ok (.invokevirtual 178, 3) := by decide +kernel
theorem dX10_post_33 : decode cX10_post 33 = .ok (.iconst (-1), 1) := by decide +kernel
theorem dX10_post_34 : decode cX10_post 34 = .ok (.if_icmp .eq 6, 3) := by decide +kernel
theorem dX10_post_37 : decode cX10_post 37 = .ok (.ldc 235, 2) := by decide +kernel
theorem dX10_post_39 : decode cX10_post 39 = .ok (.ireturn, 1) := by decide +kernel
theorem dX10_post_40 : decode cX10_post 40 = .ok (.aload_n 0, 1) := by decide +kernel
theorem dX10_post_41 : decode cX10_post 41 = .ok (.getfield 68, 3) := by decide +kernel
theorem dX10_post_44 : decode cX10_post 44 = .ok (.aload_n 0, 1) := by decide +kernel
theorem dX10_post_45 : decode cX10_post 45 = .ok (.getfield 32, 3) := by decide +kernel
theorem dX10_post_48 : decode cX10_post 48 = .ok (.invokevirtual 236, 3) := by decide +kernel
theorem dX10_post_51 : decode cX10_post 51 = .ok (.aload_n 0, 1) := by decide +kernel
theorem dX10_post_52 : decode cX10_post 52 = .ok (.getfield 32, 3) := by decide +kernel
theorem dX10_post_55 : decode cX10_post 55 = .ok (.getfield 194, 3) := by decide +kernel
theorem dX10_post_58 : decode cX10_post 58 = .ok (.iload_n 1, 1) := by decide +kernel
theorem dX10_post_59 : decode cX10_post 59 = .ok (.iaload, 1) := by decide +kernel
theorem dX10_post_60 : decode cX10_post 60 = .ok (.istore_n 3, 1) := by decide +kernel
theorem dX10_post_61 : decode cX10_post 61 = .ok (.aload_n 0, 1) := by decide +kernel
theorem dX10_post_62 : decode cX10_post 62 = .ok (.getfield 32, 3) := by decide +kernel
theorem dX10_post_65 : decode cX10_post 65 = .ok (.getfield 194, 3) := by decide +kernel
theorem dX10_post_68 : decode cX10_post 68 = .ok (.iload_n 1, 1) := by decide +kernel
theorem dX10_post_69 : decode cX10_post 69 = .ok (.iload_n 2, 1) := by decide +kernel
theorem dX10_post_70 : decode cX10_post 70 = .ok (.iastore, 1) := by decide +kernel
theorem dX10_post_71 : decode cX10_post 71 = .ok (.iload_n 3, 1) := by decide +kernel
theorem dX10_post_72 : decode cX10_post 72 = .ok (.ireturn, 1) := by decide +kernel
theorem dX10_rest_0 : decode cX10_rest 0 = .ok (.aload_n 0, 1) := by decide +kernel
theorem dX10_rest_1 : decode cX10_rest 1 = .ok (.getfield 27, 3) := by decide +kernel
theorem dX10_rest_4 : decode cX10_rest 4 = .ok (.iload_n 1, 1) := by decide +kernel
theorem dX10_rest_5 : decode cX10_rest 5 = .ok (.invokevirtual 185, 3) := by decide +kernel
theorem dX10_rest_8 : decode cX10_rest 8 = .ok (.ifCond .ne 6, 3) := by decide +kernel
theorem dX10_rest_11 : decode cX10_rest 11 = .ok (.ldc 164, 2) := by decide +kernel
theorem dX10_rest_13 : decode cX10_rest 13 = .ok (.ireturn, 1) := by decide +kernel
theorem dX10_rest_14 : decode cX10_rest 14 = .ok (.aload_n 0, 1) := by decide +kernel
theorem dX10_rest_15 : decode cX10_rest 15 = .ok (.getfield 32, 3) := by decide +kernel
theorem dX10_rest_18 : decode cX10_rest 18 = .ok (.getfield 194, 3) := by decide +kernel
theorem dX10_rest_21 : decode cX10_rest 21 = .ok (.iload_n 1, 1) := by decide +kernel
theorem dX10_rest_22 : decode cX10_rest 22 = .ok (.iaload, 1) := by decide +kernel
theorem dX10_rest_23 : decode cX10_rest 23 = .ok (.istore_n 2, 1) := by decide +kernel
theorem dX10_rest_24 : decode cX10_rest 24 = .ok (.iload_n 2, 1) := by decide +kernel
theorem dX10_rest_25 : decode cX10_rest 25 = .ok (.iconst (-1), 1) := by decide +kernel
theorem dX10_rest_26 : decode cX10_rest 26 = .ok (.if_icmp .ne 6, 3) := by decide +kernel
theorem dX10_rest_29 : decode cX10_rest 29 = .ok (.ldc 235, 2) := by decide +kernel
theorem dX10_rest_31 : decode cX10_rest 31 = .ok (.ireturn, 1) := by decide +kernel
theorem dX10_rest_32 : decode cX10_rest 32 = .ok (.aload_n 0, 1) := by decide +kernel
theorem dX10_rest_33 : decode cX10_rest 33 = .ok (.getfield 68, 3) := by decide +kernel
theorem dX10_rest_36 : decode cX10_rest 36 = .ok (.aload_n 0, 1) := by decide +kernel
theorem dX10_rest_37 : decode cX10_rest 37 = .ok (.getfield 32, 3) := by decide +kernel
theorem dX10_rest_40 : decode cX10_rest 40 = .ok (.invokevirtual 236, 3) := by decide +kernel
theorem dX10_rest_43 : decode cX10_rest 43 = .ok (.aload_n 0, 1) := by decide +kernel
theorem dX10_rest_44 : decode cX10_rest 44 = .ok (.getfield 32, 3) := by decide +kernel
theorem dX10_rest_47 : decode cX10_rest 47 = .ok (.getfield 194, 3) := by decide +kernel
theorem dX10_rest_50 : decode cX10_rest 50 = .ok (.iload_n 1, 1) := by decide +kernel
theorem dX10_rest_51 : decode cX10_rest 51 = .ok (.iconst (-1), 1) := by decide +kernel
theorem dX10_rest_52 : decode cX10_rest 52 = .ok (.iastore, 1) := by decide +kernel
theorem dX10_rest_53 : decode cX10_rest 53 = .ok (.iload_n 2, 1) := by decide +kernel
theorem dX10_rest_54 : decode cX10_rest 54 = .ok (.ireturn, 1) := by decide +kernel
theorem dX10_train_0 : decode cX10_train 0 = .ok (.aload_n 0, 1) := by decide +kernel
theorem dX10_train_1 : decode cX10_train 1 = .ok (.getfield 27, 3) := by decide +kernel
theorem dX10_train_4 : decode cX10_train 4 = .ok (.iload_n 1, 1) := by decide +kernel
theorem dX10_train_5 : decode cX10_train 5 = .ok (.invokevirtual 185, 3) := by decide +kernel
theorem dX10_train_8 : decode cX10_train 8 = .ok (.ifCond .ne 6, 3) := by decide +kernel
theorem dX10_train_11 : decode cX10_train 11 = .ok (.ldc 164, 2) := by decide +kernel
theorem dX10_train_13 : decode cX10_train 13 = .ok (.ireturn, 1) := by decide +kernel
theorem dX10_train_14 : decode cX10_train 14 = .ok (.aload_n 0, 1) := by decide +kernel
theorem dX10_train_15 : decode cX10_train 15 = .ok (.getfield 32, 3) := by decide +kernel
theorem dX10_train_18 : decode cX10_train 18 = .ok (.getfield 191, 3) := by decide +kernel
theorem dX10_train_21 : decode cX10_train 21 = .ok (.iload_n 1, 1) := by decide +kernel
theorem dX10_train_22 : decode cX10_train 22 = .ok (.iaload, 1) := by decide +kernel
theorem dX10_train_23 : decode cX10_train 23 = .ok (.iconst 1, 1) := by decide +kernel
theorem dX10_train_24 : decode cX10_train 24 = .ok (.if_icmp .gt 6, 3) := by decide +kernel
theorem dX10_train_27 : decode cX10_train 27 = .ok (.ldc 235, 2) := by decide +kernel
theorem dX10_train_29 : decode cX10_train 29 = .ok (.ireturn, 1) := by decide +kernel
theorem dX10_train_30 : decode cX10_train 30 = .ok (.aload_n 0, 1) := by decide +kernel
theorem dX10_train_31 : decode cX10_train 31 = .ok (.getfield 68, 3) := by decide +kernel
theorem dX10_train_34 : decode cX10_train 34 = .ok (.aload_n 0, 1) := by decide +kernel
theorem dX10_train_35 : decode cX10_train 35 = .ok (.getfield 32, 3) := by decide +kernel
theorem dX10_train_38 : decode cX10_train 38 = .ok (.invokevirtual 236, 3) := by decide +kernel
theorem dX10_train_41 : decode cX10_train 41 = .ok (.aload_n 0, 1) := by decide +kernel
theorem dX10_train_42 : decode cX10_train 42 = .ok (.getfield 32, 3) := by decide +kernel
theorem dX10_train_45 : decode cX10_train 45 = .ok (.getfield 191, 3) := by decide +kernel
theorem dX10_train_48 : decode cX10_train 48 = .ok (.iload_n 1, 1) := by decide +kernel
theorem dX10_train_49 : decode cX10_train 49 = .ok (.dup2, 1) := by decide +kernel
theorem dX10_train_50 : decode cX10_train 50 = .ok (.iaload, 1) := by decide +kernel
theorem dX10_train_51 : decode cX10_train 51 = .ok (.iconst 1, 1) := by decide +kernel
theorem dX10_train_52 : decode cX10_train 52 = .ok (.isub, 1) := by decide +kernel
theorem dX10_train_53 : decode cX10_train 53 = .ok (.iastore, 1) := by decide +kernel
theorem dX10_train_54 : decode cX10_train 54 = .ok (.aload_n 0, 1) := by decide +kernel
theorem dX10_train_55 : decode cX10_train 55 = .ok (.getfield 32, 3) := by decide +kernel
theorem dX10_train_58 : decode cX10_train 58 = .ok (.getfield 191, 3) := by decide +kernel
theorem dX10_train_61 : decode cX10_train 61 = .ok (.iload_n 1, 1) := by decide +kernel
theorem dX10_train_62 : decode cX10_train 62 = .ok (.iaload, 1) := by decide +kernel
theorem dX10_train_63 : decode cX10_train 63 = .ok (.ireturn, 1) := by decide +kernel
theorem dX10_talk_0 : decode cX10_talk 0 = .ok (.aload_n 0, 1) := by decide +kernel
theorem dX10_talk_1 : decode cX10_talk 1 = .ok (.getfield 27, 3) := by decide +kernel
theorem dX10_talk_4 : decode cX10_talk 4 = .ok (.iload_n 1, 1) := by decide +kernel
theorem dX10_talk_5 : decode cX10_talk 5 = .ok (.invokevirtual 203, 3) := by decide +kernel
theorem dX10_talk_8 : decode cX10_talk 8 = .ok (.ifCond .ne 6, 3) := by decide +kernel
theorem dX10_talk_11 : decode cX10_talk 11 = .ok (.ldc 164, 2) := by decide +kernel
theorem dX10_talk_13 : decode cX10_talk 13 = .ok (.ireturn, 1) := by decide +kernel
theorem dX10_talk_14 : decode cX10_talk 14 = .ok (.iload_n 2, 1) := by decide +kernel
theorem dX10_talk_15 : decode cX10_talk 15 = .ok (.ifCond .lt 9, 3) := by decide +kernel
theorem dX10_talk_18 : decode cX10_talk 18 = .ok (.iload_n 2, 1) := by decide +kernel
theorem dX10_talk_19 : decode cX10_talk 19 = .ok (.bipush 30, 2) := by decide +kernel
theorem dX10_talk_21 : decode cX10_talk 21 = .ok (.if_icmp .le 6, 3) := by decide +kernel
theorem dX10_talk_24 : decode cX10_talk 24 = .ok (.ldc 79, 2) := by decide +kernel
theorem dX10_talk_26 : decode cX10_talk 26 = .ok (.ireturn, 1) := by decide +kernel
theorem dX10_talk_27 : decode cX10_talk 27 = .ok (.aload_n 0, 1) := by decide +kernel
theorem dX10_talk_28 : decode cX10_talk 28 = .ok (.getfield 68, 3) := by decide +kernel
theorem dX10_talk_31 : decode cX10_talk 31 = .ok (.aload_n 0, 1) := by decide +kernel
theorem dX10_talk_32 : decode cX10_talk 32 = .ok (.getfield 32, 3) := by decide +kernel
theorem dX10_talk_35 : decode cX10_talk 35 = .ok (.invokevirtual 236, 3) := by decide +kernel
theorem dX10_talk_38 : decode cX10_talk 38 = .ok (.aload_n 0, 1) := by decide +kernel
theorem dX10_talk_39 : decode cX10_talk 39 = .ok (.getfield 32, 3) := by decide +kernel
theorem dX10_talk_42 : decode cX10_talk 42 = .ok (.getfield 212, 3) := by decide +kernel
theorem dX10_talk_45 : decode cX10_talk 45 = .ok (.iload_n 1, 1) := by decide +kernel
theorem dX10_talk_46 : decode cX10_talk 46 = .ok (.iaload, 1) := by decide +kernel
theorem dX10_talk_47 : decode cX10_talk 47 = .ok (.istore_n 3, 1) := by decide +kernel
theorem dX10_talk_48 : decode cX10_talk 48 = .ok (.aload_n 0, 1) := by decide +kernel
theorem dX10_talk_49 : decode cX10_talk 49 = .ok (.getfield 32, 3) := by decide +kernel
theorem dX10_talk_52 : decode cX10_talk 52 = .ok (.getfield 212, 3) := by decide +kernel
theorem dX10_talk_55 : decode cX10_talk 55 = .ok (.iload_n 1, 1) := by decide +kernel
theorem dX10_talk_56 : decode cX10_talk 56 = .ok (.iload_n 2, 1) := by decide +kernel
theorem dX10_talk_57 : decode cX10_talk 57 = .ok (.iastore, 1) := by decide +kernel
theorem dX10_talk_58 : decode cX10_talk 58 = .ok (.iload_n 3, 1) := by decide +kernel
theorem dX10_talk_59 : decode cX10_talk 59 = .ok (.ireturn, 1) := by decide +kernel
theorem dX10_hour_0 : decode cX10_hour 0 = .ok (.aload_n 0, 1) := by decide +kernel
theorem dX10_hour_1 : decode cX10_hour 1 = .ok (.iload_n 1, 1) := by decide +kernel
theorem dX10_hour_2 : decode cX10_hour 2 = .ok (.iconst 0, 1) := by decide +kernel
theorem dX10_hour_3 : decode cX10_hour 3 = .ok (.invokevirtual 244, 3) := by decide +kernel
theorem dX10_hour_6 : decode cX10_hour 6 = .ok (.ireturn, 1) := by decide +kernel
theorem dX10_drift_0 : decode cX10_drift 0 = .ok (.aload_n 0, 1) := by decide +kernel
theorem dX10_drift_1 : decode cX10_drift 1 = .ok (.iload_n 1, 1) := by decide +kernel
theorem dX10_drift_2 : decode cX10_drift 2 = .ok (.iconst 1, 1) := by decide +kernel
theorem dX10_drift_3 : decode cX10_drift 3 = .ok (.invokevirtual 244, 3) := by decide +kernel
theorem dX10_drift_6 : decode cX10_drift 6 = .ok (.ireturn, 1) := by decide +kernel
theorem dX10_passHours_0 : decode cX10_passHours 0 = .ok (.iload_n 1, 1) := by decide +kernel
theorem dX10_passHours_1 : decode cX10_passHours 1 = .ok (.iconst 1, 1) := by decide +kernel
theorem dX10_passHours_2 : decode cX10_passHours 2 = .ok (.if_icmp .lt 9, 3) := by decide +kernel
theorem dX10_passHours_5 : decode cX10_passHours 5 = .ok (.iload_n 1, 1) := by decide +kernel
theorem dX10_passHours_6 : decode cX10_passHours 6 = .ok (.bipush 60, 2) := by decide +kernel
theorem dX10_passHours_8 : decode cX10_passHours 8 = .ok (.if_icmp .le 6, 3) := by decide +kernel
theorem dX10_passHours_11 : decode cX10_passHours 11 = .ok (.ldc 79, 2) := by decide +kernel
theorem dX10_passHours_13 : decode cX10_passHours 13 = .ok (.ireturn, 1) := by decide +kernel
theorem dX10_passHours_14 : decode cX10_passHours 14 = .ok (.aload_n 0, 1) := by decide +kernel
theorem dX10_passHours_15 : decode cX10_passHours 15 = .ok (.getfield 27, 3) := by decide +kernel
theorem dX10_passHours_18 : decode cX10_passHours 18 = .ok (.getfield 125, 3) := by decide +kernel
theorem dX10_passHours_21 : decode cX10_passHours 21 = .ok (.ifCond .ne 6, 3) := by decide +kernel
theorem dX10_passHours_24 : decode cX10_passHours 24 = .ok (.ldc 235, 2) := by decide +kernel
theorem dX10_passHours_26 : decode cX10_passHours 26 = .ok (.ireturn, 1) := by decide +kernel
theorem dX10_passHours_27 : decode cX10_passHours 27 = .ok (.aload_n 0, 1) := by decide +kernel
theorem dX10_passHours_28 : decode cX10_passHours 28 = .ok (.getfield 32, 3) := by decide +kernel
theorem dX10_passHours_31 : decode cX10_passHours 31 = .ok (.getfield 134, 3) := by decide +kernel
theorem dX10_passHours_34 : decode cX10_passHours 34 = .ok (.sipush 9000, 3) := by decide +kernel
theorem dX10_passHours_37 : decode cX10_passHours 37 = .ok (.if_icmp .le 6, 3) := by decide +kernel
theorem dX10_passHours_40 : decode cX10_passHours 40 = .ok (.ldc 84, 2) := by decide +kernel
theorem dX10_passHours_42 : decode cX10_passHours 42 = .ok (.ireturn, 1) := by decide +kernel
theorem dX10_passHours_43 : decode cX10_passHours 43 = .ok (.aload_n 0, 1) := by decide +kernel
theorem dX10_passHours_44 : decode cX10_passHours 44 = .ok (.getfield 68, 3) := by decide +kernel
theorem dX10_passHours_47 : decode cX10_passHours 47 = .ok (.aload_n 0, 1) := by decide +kernel
theorem dX10_passHours_48 : decode cX10_passHours 48 = .ok (.getfield 32, 3) := by decide +kernel
theorem dX10_passHours_51 : decode cX10_passHours 51 = .ok (.invokevirtual 236, 3) := by decide +kernel
theorem dX10_passHours_54 : decode cX10_passHours 54 = .ok (.iconst 0, 1) := by decide +kernel
theorem dX10_passHours_55 : decode cX10_passHours 55 = .ok (.istore_n 3, 1) := by decide +kernel
theorem dX10_passHours_56 : decode cX10_passHours 56 = .ok (.iload_n 3, 1) := by decide +kernel
theorem dX10_passHours_57 : decode cX10_passHours 57 = .ok (.iload_n 1, 1) := by decide +kernel
theorem dX10_passHours_58 : decode cX10_passHours 58 = .ok (.if_icmp .ge 27, 3) := by decide +kernel
theorem dX10_passHours_61 : decode cX10_passHours 61 = .ok (.iload_n 2, 1) := by decide +kernel
theorem dX10_passHours_62 : decode cX10_passHours 62 = .ok (.ifCond .eq 10, 3) := by decide +kernel
theorem dX10_passHours_65 : decode cX10_passHours 65 = .ok (.aload_n 0, 1) := by decide +kernel
theorem dX10_passHours_66 : decode cX10_passHours 66 = .ok (.getfield 19, 3) := by decide +kernel
theorem dX10_passHours_69 : decode cX10_passHours 69 = .ok (.invokevirtual 248, 3) := by decide +kernel
theorem dX10_passHours_72 : decode cX10_passHours 72 = .ok (.aload_n 0, 1) := by decide +kernel
theorem dX10_passHours_73 : decode cX10_passHours 73 = .ok (.getfield 19, 3) := by decide +kernel
theorem dX10_passHours_76 : decode cX10_passHours 76 = .ok (.invokevirtual 251, 3) := by decide +kernel
theorem dX10_passHours_79 : decode cX10_passHours 79 = .ok (.iinc 3 1, 3) := by decide +kernel
theorem dX10_passHours_82 : decode cX10_passHours 82 = .ok (.goto (-26), 3) := by decide +kernel
theorem dX10_passHours_85 : decode cX10_passHours 85 = .ok (.aload_n 0, 1) := by decide +kernel
theorem dX10_passHours_86 : decode cX10_passHours 86 = .ok (.getfield 32, 3) := by decide +kernel
theorem dX10_passHours_89 : decode cX10_passHours 89 = .ok (.getfield 134, 3) := by decide +kernel
theorem dX10_passHours_92 : decode cX10_passHours 92 = .ok (.ireturn, 1) := by decide +kernel
theorem dX10_undo_0 : decode cX10_undo 0 = .ok (.aload_n 0, 1) := by decide +kernel
theorem dX10_undo_1 : decode cX10_undo 1 = .ok (.getfield 68, 3) := by decide +kernel
theorem dX10_undo_4 : decode cX10_undo 4 = .ok (.getfield 159, 3) := by decide +kernel
theorem dX10_undo_7 : decode cX10_undo 7 = .ok (.ifCond .ne 6, 3) := by decide +kernel
theorem dX10_undo_10 : decode cX10_undo 10 = .ok (.ldc 235, 2) := by decide +kernel
theorem dX10_undo_12 : decode cX10_undo 12 = .ok (.ireturn, 1) := by decide +kernel
theorem dX10_undo_13 : decode cX10_undo 13 = .ok (.aload_n 0, 1) := by decide +kernel
theorem dX10_undo_14 : decode cX10_undo 14 = .ok (.getfield 68, 3) := by decide +kernel
theorem dX10_undo_17 : decode cX10_undo 17 = .ok (.aload_n 0, 1) := by decide +kernel
theorem dX10_undo_18 : decode cX10_undo 18 = .ok (.getfield 32, 3) := by decide +kernel
theorem dX10_undo_21 : decode cX10_undo 21 = .ok (.invokevirtual 254, 3) := by decide +kernel
theorem dX10_undo_24 : decode cX10_undo 24 = .ok (.aload_n 0, 1) := by decide +kernel
theorem dX10_undo_25 : decode cX10_undo 25 = .ok (.getfield 68, 3) := by decide +kernel
theorem dX10_undo_28 : decode cX10_undo 28 = .ok (.getfield 159, 3) := by decide +kernel
theorem dX10_undo_31 : decode cX10_undo 31 = .ok (.ireturn, 1) := by decide +kernel
theorem dX10_way_0 : decode cX10_way 0 = .ok (.aload_n 0, 1) := by decide +kernel
theorem dX10_way_1 : decode cX10_way 1 = .ok (.getfield 27, 3) := by decide +kernel
theorem dX10_way_4 : decode cX10_way 4 = .ok (.iload_n 1, 1) := by decide +kernel
theorem dX10_way_5 : decode cX10_way 5 = .ok (.invokevirtual 203, 3) := by decide +kernel
theorem dX10_way_8 : decode cX10_way 8 = .ok (.ifCond .eq 14, 3) := by decide +kernel
theorem dX10_way_11 : decode cX10_way 11 = .ok (.aload_n 0, 1) := by decide +kernel
theorem dX10_way_12 : decode cX10_way 12 = .ok (.getfield 27, 3) := by decide +kernel
theorem dX10_way_15 : decode cX10_way 15 = .ok (.iload_n 2, 1) := by decide +kernel
theorem dX10_way_16 : decode cX10_way 16 = .ok (.invokevirtual 257, 3) := by decide +kernel
theorem dX10_way_19 : decode cX10_way 19 = .ok (.ifCond .ne 6, 3) := by decide +kernel
theorem dX10_way_22 : decode cX10_way 22 = .ok (.ldc 164, 2) := by decide +kernel
theorem dX10_way_24 : decode cX10_way 24 = .ok (.ireturn, 1) := by decide +kernel
theorem dX10_way_25 : decode cX10_way 25 = .ok (.iload_n 3, 1) := by decide +kernel
theorem dX10_way_26 : decode cX10_way 26 = .ok (.ifCond .lt 8, 3) := by decide +kernel
theorem dX10_way_29 : decode cX10_way 29 = .ok (.iload_n 3, 1) := by decide +kernel
theorem dX10_way_30 : decode cX10_way 30 = .ok (.iconst 1, 1) := by decide +kernel
theorem dX10_way_31 : decode cX10_way 31 = .ok (.if_icmp .le 6, 3) := by decide +kernel
theorem dX10_way_34 : decode cX10_way 34 = .ok (.ldc 79, 2) := by decide +kernel
theorem dX10_way_36 : decode cX10_way 36 = .ok (.ireturn, 1) := by decide +kernel
theorem dX10_way_37 : decode cX10_way 37 = .ok (.aload_n 0, 1) := by decide +kernel
theorem dX10_way_38 : decode cX10_way 38 = .ok (.getfield 19, 3) := by decide +kernel
theorem dX10_way_41 : decode cX10_way 41 = .ok (.iload_n 1, 1) := by decide +kernel
theorem dX10_way_42 : decode cX10_way 42 = .ok (.invokevirtual 221, 3) := by decide +kernel
theorem dX10_way_45 : decode cX10_way 45 = .ok (.istore 4, 2) := by decide +kernel
theorem dX10_way_47 : decode cX10_way 47 = .ok (.iload_n 3, 1) := by decide +kernel
theorem dX10_way_48 : decode cX10_way 48 = .ok (.ifCond .ne 25, 3) := by decide +kernel
theorem dX10_way_51 : decode cX10_way 51 = .ok (.aload_n 0, 1) := by decide +kernel
theorem dX10_way_52 : decode cX10_way 52 = .ok (.getfield 38, 3) := by decide +kernel
theorem dX10_way_55 : decode cX10_way 55 = .ok (.aload_n 0, 1) := by decide +kernel
theorem dX10_way_56 : decode cX10_way 56 = .ok (.getfield 32, 3) := by decide +kernel
theorem dX10_way_59 : decode cX10_way 59 = .ok (.getfield 209, 3) := by decide +kernel
theorem dX10_way_62 : decode cX10_way 62 = .ok (.iload_n 1, 1) := by decide +kernel
theorem dX10_way_63 : decode cX10_way 63 = .ok (.iaload, 1) := by decide +kernel
theorem dX10_way_64 : decode cX10_way 64 = .ok (.iload_n 2, 1) := by decide +kernel
theorem dX10_way_65 : decode cX10_way 65 = .ok (.iload 4, 2) := by decide +kernel
theorem dX10_way_67 : decode cX10_way 67 = .ok (.invokevirtual 260, 3) := by decide +kernel
theorem dX10_way_70 : decode cX10_way 70 = .ok (.goto 22, 3) := by decide +kernel
theorem dX10_way_73 : decode cX10_way 73 = .ok (.aload_n 0, 1) := by decide +kernel
theorem dX10_way_74 : decode cX10_way 74 = .ok (.getfield 38, 3) := by decide +kernel
theorem dX10_way_77 : decode cX10_way 77 = .ok (.aload_n 0, 1) := by decide +kernel
theorem dX10_way_78 : decode cX10_way 78 = .ok (.getfield 32, 3) := by decide +kernel
theorem dX10_way_81 : decode cX10_way 81 = .ok (.getfield 209, 3) := by decide +kernel
theorem dX10_way_84 : decode cX10_way 84 = .ok (.iload_n 1, 1) := by decide +kernel
theorem dX10_way_85 : decode cX10_way 85 = .ok (.iaload, 1) := by decide +kernel
theorem dX10_way_86 : decode cX10_way 86 = .ok (.iload_n 2, 1) := by decide +kernel
theorem dX10_way_87 : decode cX10_way 87 = .ok (.iload 4, 2) := by decide +kernel
theorem dX10_way_89 : decode cX10_way 89 = .ok (.invokevirtual 264, 3) := by decide +kernel
theorem dX10_way_92 : decode cX10_way 92 = .ok (.ireturn, 1) := by decide +kernel
theorem dX10_safest_0 : decode cX10_safest 0 = .ok (.aload_n 0, 1) := by decide +kernel
theorem dX10_safest_1 : decode cX10_safest 1 = .ok (.getfield 27, 3) := by decide +kernel
theorem dX10_safest_4 : decode cX10_safest 4 = .ok (.iload_n 1, 1) := by decide +kernel
theorem dX10_safest_5 : decode cX10_safest 5 = .ok (.invokevirtual 203, 3) := by decide +kernel
theorem dX10_safest_8 : decode cX10_safest 8 = .ok (.ifCond .eq 14, 3) := by decide +kernel
theorem dX10_safest_11 : decode cX10_safest 11 = .ok (.aload_n 0, 1) := by decide +kernel
theorem dX10_safest_12 : decode cX10_safest 12 = .ok (.getfield 27, 3) := by decide +kernel
theorem dX10_safest_15 : decode cX10_safest 15 = .ok (.iload_n 2, 1) := by decide +kernel
theorem dX10_safest_16 : decode cX10_safest 16 = .ok (.invokevirtual 257, 3) := by decide +kernel
theorem dX10_safest_19 : decode cX10_safest 19 = .ok (.ifCond .ne 6, 3) := by decide +kernel
theorem dX10_safest_22 : decode cX10_safest 22 = .ok (.ldc 164, 2) := by decide +kernel
theorem dX10_safest_24 : decode cX10_safest 24 = .ok (.ireturn, 1) := by decide +kernel
theorem dX10_safest_25 : decode cX10_safest 25 = .ok (.iload_n 3, 1) := by decide +kernel
theorem dX10_safest_26 : decode cX10_safest 26 = .ok (.ifCond .lt 8, 3) := by decide +kernel
theorem dX10_safest_29 : decode cX10_safest 29 = .ok (.iload_n 3, 1) := by decide +kernel
theorem dX10_safest_30 : decode cX10_safest 30 = .ok (.iconst 1, 1) := by decide +kernel
theorem dX10_safest_31 : decode cX10_safest 31 = .ok (.if_icmp .le 6, 3) := by decide +kernel
theorem dX10_safest_34 : decode cX10_safest 34 = .ok (.ldc 79, 2) := by decide +kernel
theorem dX10_safest_36 : decode cX10_safest 36 = .ok (.ireturn, 1) := by decide +kernel
theorem dX10_safest_37 : decode cX10_safest 37 = .ok (.aload_n 0, 1) := by decide +kernel
theorem dX10_safest_38 : decode cX10_safest 38 = .ok (.getfield 38, 3) := by decide +kernel
theorem dX10_safest_41 : decode cX10_safest 41 = .ok (.aload_n 0, 1) := by decide +kernel
theorem dX10_safest_42 : decode cX10_safest 42 = .ok (.getfield 32, 3) := by decide +kernel
theorem dX10_safest_45 : decode cX10_safest 45 = .ok (.getfield 209, 3) := by decide +kernel
theorem dX10_safest_48 : decode cX10_safest 48 = .ok (.iload_n 1, 1) := by decide +kernel
theorem dX10_safest_49 : decode cX10_safest 49 = .ok (.iaload, 1) := by decide +kernel
theorem dX10_safest_50 : decode cX10_safest 50 = .ok (.iload_n 2, 1) := by decide +kernel
theorem dX10_safest_51 : decode cX10_safest 51 = .ok (.aload_n 0, 1) := by decide +kernel
theorem dX10_safest_52 : decode cX10_safest 52 = .ok (.getfield 19, 3) := by decide +kernel
theorem dX10_safest_55 : decode cX10_safest 55 = .ok (.iload_n 1, 1) := by decide +kernel
theorem dX10_safest_56 : decode cX10_safest 56 = .ok (.invokevirtual 221, 3) := by decide +kernel
theorem dX10_safest_59 : decode cX10_safest 59 = .ok (.invokevirtual 267, 3) := by decide +kernel
theorem dX10_safest_62 : decode cX10_safest 62 = .ok (.iload_n 3, 1) := by decide +kernel
theorem dX10_safest_63 : decode cX10_safest 63 = .ok (.ifCond .ne 13, 3) := by decide +kernel
theorem dX10_safest_66 : decode cX10_safest 66 = .ok (.aload_n 0, 1) := by decide +kernel
theorem dX10_safest_67 : decode cX10_safest 67 = .ok (.getfield 38, 3) := by decide +kernel
theorem dX10_safest_70 : decode cX10_safest 70 = .ok (.getfield 271, 3) := by decide +kernel
theorem dX10_safest_73 : decode cX10_safest 73 = .ok (.goto 10, 3) := by decide +kernel
theorem dX10_safest_76 : decode cX10_safest 76 = .ok (.aload_n 0, 1) := by decide +kernel
theorem dX10_safest_77 : decode cX10_safest 77 = .ok (.getfield 38, 3) := by decide +kernel
theorem dX10_safest_80 : decode cX10_safest 80 = .ok (.getfield 274, 3) := by decide +kernel
theorem dX10_safest_83 : decode cX10_safest 83 = .ok (.ireturn, 1) := by decide +kernel
theorem dX10_posts_0 : decode cX10_posts 0 = .ok (.aload_n 0, 1) := by decide +kernel
theorem dX10_posts_1 : decode cX10_posts 1 = .ok (.getfield 27, 3) := by decide +kernel
theorem dX10_posts_4 : decode cX10_posts 4 = .ok (.iload_n 1, 1) := by decide +kernel
theorem dX10_posts_5 : decode cX10_posts 5 = .ok (.invokevirtual 203, 3) := by decide +kernel
theorem dX10_posts_8 : decode cX10_posts 8 = .ok (.ifCond .eq 19, 3) := by decide +kernel
theorem dX10_posts_11 : decode cX10_posts 11 = .ok (.iload_n 2, 1) := by decide +kernel
theorem dX10_posts_12 : decode cX10_posts 12 = .ok (.iconst (-1), 1) := by decide +kernel
theorem dX10_posts_13 : decode cX10_posts 13 = .ok (.if_icmp .eq 17, 3) := by decide +kernel
theorem dX10_posts_16 : decode cX10_posts 16 = .ok (.aload_n 0, 1) := by decide +kernel
theorem dX10_posts_17 : decode cX10_posts 17 = .ok (.getfield 27, 3) := by decide +kernel
theorem dX10_posts_20 : decode cX10_posts 20 = .ok (.iload_n 2, 1) := by decide +kernel
theorem dX10_posts_21 : decode cX10_posts 21 = .ok (.invokevirtual 160, 3) := by decide +kernel
theorem dX10_posts_24 : decode cX10_posts 24 = .ok (.ifCond .ne 6, 3) := by decide +kernel
theorem dX10_posts_27 : decode cX10_posts 27 = .ok (.ldc 164, 2) := by decide +kernel
theorem dX10_posts_29 : decode cX10_posts 29 = .ok (.ireturn, 1) := by decide +kernel
theorem dX10_posts_30 : decode cX10_posts 30 = .ok (.aload_n 0, 1) := by decide +kernel
theorem dX10_posts_31 : decode cX10_posts 31 = .ok (.getfield 47, 3) := by decide +kernel
theorem dX10_posts_34 : decode cX10_posts 34 = .ok (.iload_n 1, 1) := by decide +kernel
theorem dX10_posts_35 : decode cX10_posts 35 = .ok (.invokevirtual 277, 3) := by decide +kernel
theorem dX10_posts_38 : decode cX10_posts 38 = .ok (.iload_n 2, 1) := by decide +kernel
theorem dX10_posts_39 : decode cX10_posts 39 = .ok (.iconst (-1), 1) := by decide +kernel
theorem dX10_posts_40 : decode cX10_posts 40 = .ok (.if_icmp .ne 13, 3) := by decide +kernel
theorem dX10_posts_43 : decode cX10_posts 43 = .ok (.aload_n 0, 1) := by decide +kernel
theorem dX10_posts_44 : decode cX10_posts 44 = .ok (.getfield 47, 3) := by decide +kernel
theorem dX10_posts_47 : decode cX10_posts 47 = .ok (.getfield 280, 3) := by decide +kernel
theorem dX10_posts_50 : decode cX10_posts 50 = .ok (.goto 12, 3) := by decide +kernel
theorem dX10_posts_53 : decode cX10_posts 53 = .ok (.aload_n 0, 1) := by decide +kernel
theorem dX10_posts_54 : decode cX10_posts 54 = .ok (.getfield 47, 3) := by decide +kernel
theorem dX10_posts_57 : decode cX10_posts 57 = .ok (.getfield 281, 3) := by decide +kernel
theorem dX10_posts_60 : decode cX10_posts 60 = .ok (.iload_n 2, 1) := by decide +kernel
theorem dX10_posts_61 : decode cX10_posts 61 = .ok (.iaload, 1) := by decide +kernel
theorem dX10_posts_62 : decode cX10_posts 62 = .ok (.ireturn, 1) := by decide +kernel
theorem dX10_tires_0 : decode cX10_tires 0 = .ok (.aload_n 0, 1) := by decide +kernel
theorem dX10_tires_1 : decode cX10_tires 1 = .ok (.getfield 27, 3) := by decide +kernel
theorem dX10_tires_4 : decode cX10_tires 4 = .ok (.iload_n 1, 1) := by decide +kernel
theorem dX10_tires_5 : decode cX10_tires 5 = .ok (.invokevirtual 203, 3) := by decide +kernel
theorem dX10_tires_8 : decode cX10_tires 8 = .ok (.ifCond .eq 14, 3) := by decide +kernel
theorem dX10_tires_11 : decode cX10_tires 11 = .ok (.aload_n 0, 1) := by decide +kernel
theorem dX10_tires_12 : decode cX10_tires 12 = .ok (.getfield 27, 3) := by decide +kernel
theorem dX10_tires_15 : decode cX10_tires 15 = .ok (.iload_n 2, 1) := by decide +kernel
theorem dX10_tires_16 : decode cX10_tires 16 = .ok (.invokevirtual 160, 3) := by decide +kernel
theorem dX10_tires_19 : decode cX10_tires 19 = .ok (.ifCond .ne 6, 3) := by decide +kernel
theorem dX10_tires_22 : decode cX10_tires 22 = .ok (.ldc 164, 2) := by decide +kernel
theorem dX10_tires_24 : decode cX10_tires 24 = .ok (.ireturn, 1) := by decide +kernel
theorem dX10_tires_25 : decode cX10_tires 25 = .ok (.aload_n 0, 1) := by decide +kernel
theorem dX10_tires_26 : decode cX10_tires 26 = .ok (.getfield 19, 3) := by decide +kernel
theorem dX10_tires_29 : decode cX10_tires 29 = .ok (.iload_n 2, 1) := by decide +kernel
theorem dX10_tires_30 : decode cX10_tires 30 = .ok (.invokevirtual 178, 3) := by decide +kernel
theorem dX10_tires_33 : decode cX10_tires 33 = .ok (.istore_n 3, 1) := by decide +kernel
theorem dX10_tires_34 : decode cX10_tires 34 = .ok (.iload_n 3, 1) := by decide +kernel
theorem dX10_tires_35 : decode cX10_tires 35 = .ok (.iconst (-1), 1) := by decide +kernel
theorem dX10_tires_36 : decode cX10_tires 36 = .ok (.if_icmp .ne 6, 3) := by decide +kernel
theorem dX10_tires_39 : decode cX10_tires 39 = .ok (.ldc 235, 2) := by decide +kernel
theorem dX10_tires_41 : decode cX10_tires 41 = .ok (.ireturn, 1) := by decide +kernel
theorem dX10_tires_42 : decode cX10_tires 42 = .ok (.aload_n 0, 1) := by decide +kernel
theorem dX10_tires_43 : decode cX10_tires 43 = .ok (.getfield 19, 3) := by decide +kernel
theorem dX10_tires_46 : decode cX10_tires 46 = .ok (.iload_n 1, 1) := by decide +kernel
theorem dX10_tires_47 : decode cX10_tires 47 = .ok (.iload_n 2, 1) := by decide +kernel
theorem dX10_tires_48 : decode cX10_tires 48 = .ok (.invokevirtual 224, 3) := by decide +kernel
theorem dX10_tires_51 : decode cX10_tires 51 = .ok (.istore 4, 2) := by decide +kernel
theorem dX10_tires_53 : decode cX10_tires 53 = .ok (.aload_n 0, 1) := by decide +kernel
theorem dX10_tires_54 : decode cX10_tires 54 = .ok (.getfield 32, 3) := by decide +kernel
theorem dX10_tires_57 : decode cX10_tires 57 = .ok (.getfield 197, 3) := by decide +kernel
theorem dX10_tires_60 : decode cX10_tires 60 = .ok (.iload_n 3, 1) := by decide +kernel
theorem dX10_tires_61 : decode cX10_tires 61 = .ok (.iaload, 1) := by decide +kernel
theorem dX10_tires_62 : decode cX10_tires 62 = .ok (.istore 5, 2) := by decide +kernel
theorem dX10_tires_64 : decode cX10_tires 64 = .ok (.iload 5, 2) := by decide +kernel
theorem dX10_tires_66 : decode cX10_tires 66 = .ok (.bipush 99, 2) := by decide +kernel
theorem dX10_tires_68 : decode cX10_tires 68 = .ok (.if_icmp .gt 37, 3) := by decide +kernel
theorem dX10_tires_71 : decode cX10_tires 71 = .ok (.aload_n 0, 1) := by decide +kernel
theorem dX10_tires_72 : decode cX10_tires 72 = .ok (.getfield 19, 3) := by decide +kernel
theorem dX10_tires_75 : decode cX10_tires 75 = .ok (.iload_n 3, 1) := by decide +kernel
theorem dX10_tires_76 : decode cX10_tires 76 = .ok (.iload 5, 2) := by decide +kernel
theorem dX10_tires_78 : decode cX10_tires 78 = .ok (.invokevirtual 284, 3) := by decide +kernel
theorem dX10_tires_81 : decode cX10_tires 81 = .ok (.iload 4, 2) := by decide +kernel
theorem dX10_tires_83 : decode cX10_tires 83 = .ok (.if_icmp .le 16, 3) := by decide +kernel
theorem dX10_tires_86 : decode cX10_tires 86 = .ok (.iload 5, 2) := by decide +kernel
theorem dX10_tires_88 : decode cX10_tires 88 = .ok (.aload_n 0, 1) := by decide +kernel
theorem dX10_tires_89 : decode cX10_tires 89 = .ok (.getfield 32, 3) := by decide +kernel
theorem dX10_tires_92 : decode cX10_tires 92 = .ok (.getfield 197, 3) := by decide +kernel
theorem dX10_tires_95 : decode cX10_tires 95 = .ok (.iload_n 3, 1) := by decide +kernel
theorem dX10_tires_96 : decode cX10_tires 96 = .ok (.iaload, 1) := by decide +kernel
theorem dX10_tires_97 : decode cX10_tires 97 = .ok (.isub, 1) := by decide +kernel
theorem dX10_tires_98 : decode cX10_tires 98 = .ok (.ireturn, 1) := by decide +kernel
theorem dX10_tires_99 : decode cX10_tires 99 = .ok (.iinc 5 1, 3) := by decide +kernel
theorem dX10_tires_102 : decode cX10_tires 102 = .ok (.goto (-38), 3) := by decide +kernel
theorem dX10_tires_105 : decode cX10_tires 105 = .ok (.iconst (-1), 1) := by decide +kernel
theorem dX10_tires_106 : decode cX10_tires 106 = .ok (.ireturn, 1) := by decide +kernel
theorem dX10_parted_0 : decode cX10_parted 0 = .ok (.aload_n 0, 1) := by decide +kernel
theorem dX10_parted_1 : decode cX10_parted 1 = .ok (.getfield 27, 3) := by decide +kernel
theorem dX10_parted_4 : decode cX10_parted 4 = .ok (.iload_n 1, 1) := by decide +kernel
theorem dX10_parted_5 : decode cX10_parted 5 = .ok (.invokevirtual 257, 3) := by decide +kernel
theorem dX10_parted_8 : decode cX10_parted 8 = .ok (.ifCond .eq 19, 3) := by decide +kernel
theorem dX10_parted_11 : decode cX10_parted 11 = .ok (.aload_n 0, 1) := by decide +kernel
theorem dX10_parted_12 : decode cX10_parted 12 = .ok (.getfield 27, 3) := by decide +kernel
theorem dX10_parted_15 : decode cX10_parted 15 = .ok (.iload_n 2, 1) := by decide +kernel
theorem dX10_parted_16 : decode cX10_parted 16 = .ok (.invokevirtual 257, 3) := by decide +kernel
theorem dX10_parted_19 : decode cX10_parted 19 = .ok (.ifCond .eq 8, 3) := by decide +kernel
theorem dX10_parted_22 : decode cX10_parted 22 = .ok (.iload_n 1, 1) := by decide +kernel
theorem dX10_parted_23 : decode cX10_parted 23 = .ok (.iload_n 2, 1) := by decide +kernel
theorem dX10_parted_24 : decode cX10_parted 24 = .ok (.if_icmp .ne 6, 3) := by decide +kernel
theorem dX10_parted_27 : decode cX10_parted 27 = .ok (.ldc 164, 2) := by decide +kernel
theorem dX10_parted_29 : decode cX10_parted 29 = .ok (.ireturn, 1) := by decide +kernel
theorem dX10_parted_30 : decode cX10_parted 30 = .ok (.aload_n 0, 1) := by decide +kernel
theorem dX10_parted_31 : decode cX10_parted 31 = .ok (.getfield 38, 3) := by decide +kernel
theorem dX10_parted_34 : decode cX10_parted 34 = .ok (.iload_n 1, 1) := by decide +kernel
theorem dX10_parted_35 : decode cX10_parted 35 = .ok (.iload_n 2, 1) := by decide +kernel
theorem dX10_parted_36 : decode cX10_parted 36 = .ok (.invokevirtual 287, 3) := by decide +kernel
theorem dX10_parted_39 : decode cX10_parted 39 = .ok (.ireturn, 1) := by decide +kernel
theorem dX10_pays_0 : decode cX10_pays 0 = .ok (.iload_n 1, 1) := by decide +kernel
theorem dX10_pays_1 : decode cX10_pays 1 = .ok (.iconst 1, 1) := by decide +kernel
theorem dX10_pays_2 : decode cX10_pays 2 = .ok (.if_icmp .lt 19, 3) := by decide +kernel
theorem dX10_pays_5 : decode cX10_pays 5 = .ok (.iload_n 1, 1) := by decide +kernel
theorem dX10_pays_6 : decode cX10_pays 6 = .ok (.bipush 99, 2) := by decide +kernel
theorem dX10_pays_8 : decode cX10_pays 8 = .ok (.if_icmp .gt 13, 3) := by decide +kernel
theorem dX10_pays_11 : decode cX10_pays 11 = .ok (.iload_n 2, 1) := by decide +kernel
theorem dX10_pays_12 : decode cX10_pays 12 = .ok (.ifCond .lt 9, 3) := by decide +kernel
theorem dX10_pays_15 : decode cX10_pays 15 = .ok (.iload_n 2, 1) := by decide +kernel
theorem dX10_pays_16 : decode cX10_pays 16 = .ok (.bipush 100, 2) := by decide +kernel
theorem dX10_pays_18 : decode cX10_pays 18 = .ok (.if_icmp .le 6, 3) := by decide +kernel
theorem dX10_pays_21 : decode cX10_pays 21 = .ok (.ldc 79, 2) := by decide +kernel
theorem dX10_pays_23 : decode cX10_pays 23 = .ok (.ireturn, 1) := by decide +kernel
theorem dX10_pays_24 : decode cX10_pays 24 = .ok (.iconst 0, 1) := by decide +kernel
theorem dX10_pays_25 : decode cX10_pays 25 = .ok (.istore_n 3, 1) := by decide +kernel
theorem dX10_pays_26 : decode cX10_pays 26 = .ok (.lconst 0, 1) := by decide +kernel
theorem dX10_pays_27 : decode cX10_pays 27 = .ok (.lstore 4, 2) := by decide +kernel
theorem dX10_pays_29 : decode cX10_pays 29 = .ok (.ldc_w 290, 3) := by decide +kernel
theorem dX10_pays_32 : decode cX10_pays 32 = .ok (.istore 6, 2) := by decide +kernel
theorem dX10_pays_34 : decode cX10_pays 34 = .ok (.iconst 1, 1) := by decide +kernel
theorem dX10_pays_35 : decode cX10_pays 35 = .ok (.istore 7, 2) := by decide +kernel
theorem dX10_pays_37 : decode cX10_pays 37 = .ok (.iload 7, 2) := by decide +kernel
theorem dX10_pays_39 : decode cX10_pays 39 = .ok (.bipush 30, 2) := by decide +kernel
theorem dX10_pays_41 : decode cX10_pays 41 = .ok (.if_icmp .gt 44, 3) := by decide +kernel
theorem dX10_pays_44 : decode cX10_pays 44 = .ok (.iload 6, 2) := by decide +kernel
theorem dX10_pays_46 : decode cX10_pays 46 = .ok (.iload_n 2, 1) := by decide +kernel
theorem dX10_pays_47 : decode cX10_pays 47 = .ok (.invokestatic 291, 3) := by decide +kernel
theorem dX10_pays_50 : decode cX10_pays 50 = .ok (.istore 6, 2) := by decide +kernel
theorem dX10_pays_52 : decode cX10_pays 52 = .ok (.iload 7, 2) := by decide +kernel
theorem dX10_pays_54 : decode cX10_pays 54 = .ok (.i2l, 1) := by decide +kernel
theorem dX10_pays_55 : decode cX10_pays 55 = .ok (.iload_n 1, 1) := by decide +kernel
theorem dX10_pays_56 : decode cX10_pays 56 = .ok (.i2l, 1) := by decide +kernel
theorem dX10_pays_57 : decode cX10_pays 57 = .ok (.lmul, 1) := by decide +kernel
theorem dX10_pays_58 : decode cX10_pays 58 = .ok (.iload 6, 2) := by decide +kernel
theorem dX10_pays_60 : decode cX10_pays 60 = .ok (.i2l, 1) := by decide +kernel
theorem dX10_pays_61 : decode cX10_pays 61 = .ok (.lmul, 1) := by decide +kernel
theorem dX10_pays_62 : decode cX10_pays 62 = .ok (.lstore 8, 2) := by decide +kernel
theorem dX10_pays_64 : decode cX10_pays 64 = .ok (.lload 8, 2) := by decide +kernel
theorem dX10_pays_66 : decode cX10_pays 66 = .ok (.lload 4, 2) := by decide +kernel
theorem dX10_pays_68 : decode cX10_pays 68 = .ok (.lcmp, 1) := by decide +kernel
theorem dX10_pays_69 : decode cX10_pays 69 = .ok (.ifCond .le 10, 3) := by decide +kernel
theorem dX10_pays_72 : decode cX10_pays 72 = .ok (.lload 8, 2) := by decide +kernel
theorem dX10_pays_74 : decode cX10_pays 74 = .ok (.lstore 4, 2) := by decide +kernel
theorem dX10_pays_76 : decode cX10_pays 76 = .ok (.iload 7, 2) := by decide +kernel
theorem dX10_pays_78 : decode cX10_pays 78 = .ok (.istore_n 3, 1) := by decide +kernel
theorem dX10_pays_79 : decode cX10_pays 79 = .ok (.iinc 7 1, 3) := by decide +kernel
theorem dX10_pays_82 : decode cX10_pays 82 = .ok (.goto (-45), 3) := by decide +kernel
theorem dX10_pays_85 : decode cX10_pays 85 = .ok (.iload_n 3, 1) := by decide +kernel
theorem dX10_pays_86 : decode cX10_pays 86 = .ok (.ireturn, 1) := by decide +kernel
theorem dX10_exact_0 : decode cX10_exact 0 = .ok (.iload_n 1, 1) := by decide +kernel
theorem dX10_exact_1 : decode cX10_exact 1 = .ok (.ifCond .lt 19, 3) := by decide +kernel
theorem dX10_exact_4 : decode cX10_exact 4 = .ok (.iload_n 1, 1) := by decide +kernel
theorem dX10_exact_5 : decode cX10_exact 5 = .ok (.bipush 60, 2) := by decide +kernel
theorem dX10_exact_7 : decode cX10_exact 7 = .ok (.if_icmp .gt 13, 3) := by decide +kernel
theorem dX10_exact_10 : decode cX10_exact 10 = .ok (.iload_n 2, 1) := by decide +kernel
theorem dX10_exact_11 : decode cX10_exact 11 = .ok (.ifCond .lt 9, 3) := by decide +kernel
theorem dX10_exact_14 : decode cX10_exact 14 = .ok (.iload_n 2, 1) := by decide +kernel
theorem dX10_exact_15 : decode cX10_exact 15 = .ok (.bipush 100, 2) := by decide +kernel
theorem dX10_exact_17 : decode cX10_exact 17 = .ok (.if_icmp .le 6, 3) := by decide +kernel
theorem dX10_exact_20 : decode cX10_exact 20 = .ok (.ldc 79, 2) := by decide +kernel
theorem dX10_exact_22 : decode cX10_exact 22 = .ok (.ireturn, 1) := by decide +kernel
theorem dX10_exact_23 : decode cX10_exact 23 = .ok (.ldc_w 290, 3) := by decide +kernel
theorem dX10_exact_26 : decode cX10_exact 26 = .ok (.istore_n 3, 1) := by decide +kernel
theorem dX10_exact_27 : decode cX10_exact 27 = .ok (.iconst 0, 1) := by decide +kernel
theorem dX10_exact_28 : decode cX10_exact 28 = .ok (.istore 4, 2) := by decide +kernel
theorem dX10_exact_30 : decode cX10_exact 30 = .ok (.iload 4, 2) := by decide +kernel
theorem dX10_exact_32 : decode cX10_exact 32 = .ok (.iload_n 1, 1) := by decide +kernel
theorem dX10_exact_33 : decode cX10_exact 33 = .ok (.if_icmp .ge 15, 3) := by decide +kernel
theorem dX10_exact_36 : decode cX10_exact 36 = .ok (.iload_n 3, 1) := by decide +kernel
theorem dX10_exact_37 : decode cX10_exact 37 = .ok (.iload_n 2, 1) := by decide +kernel
theorem dX10_exact_38 : decode cX10_exact 38 = .ok (.invokestatic 291, 3) := by decide +kernel
theorem dX10_exact_41 : decode cX10_exact 41 = .ok (.istore_n 3, 1) := by decide +kernel
theorem dX10_exact_42 : decode cX10_exact 42 = .ok (.iinc 4 1, 3) := by decide +kernel
theorem dX10_exact_45 : decode cX10_exact 45 = .ok (.goto (-15), 3) := by decide +kernel
theorem dX10_exact_48 : decode cX10_exact 48 = .ok (.iload_n 3, 1) := by decide +kernel
theorem dX10_exact_49 : decode cX10_exact 49 = .ok (.ireturn, 1) := by decide +kernel
theorem dX10_see_0 : decode cX10_see 0 = .ok (.iload_n 1, 1) := by decide +kernel
theorem dX10_see_1 : decode cX10_see 1 = .ok (.ifCond .lt 9, 3) := by decide +kernel
theorem dX10_see_4 : decode cX10_see 4 = .ok (.iload_n 1, 1) := by decide +kernel
theorem dX10_see_5 : decode cX10_see 5 = .ok (.bipush 40, 2) := by decide +kernel
theorem dX10_see_7 : decode cX10_see 7 = .ok (.if_icmp .le 6, 3) := by decide +kernel
theorem dX10_see_10 : decode cX10_see 10 = .ok (.ldc 79, 2) := by decide +kernel
theorem dX10_see_12 : decode cX10_see 12 = .ok (.ireturn, 1) := by decide +kernel
theorem dX10_see_13 : decode cX10_see 13 = .ok (.aload_n 0, 1) := by decide +kernel
theorem dX10_see_14 : decode cX10_see 14 = .ok (.getfield 54, 3) := by decide +kernel
theorem dX10_see_17 : decode cX10_see 17 = .ok (.getfield 156, 3) := by decide +kernel
theorem dX10_see_20 : decode cX10_see 20 = .ok (.bipush 6, 2) := by decide +kernel
theorem dX10_see_22 : decode cX10_see 22 = .ok (.if_icmp .lt 6, 3) := by decide +kernel
theorem dX10_see_25 : decode cX10_see 25 = .ok (.ldc 84, 2) := by decide +kernel
theorem dX10_see_27 : decode cX10_see 27 = .ok (.ireturn, 1) := by decide +kernel
theorem dX10_see_28 : decode cX10_see 28 = .ok (.aload_n 0, 1) := by decide +kernel
theorem dX10_see_29 : decode cX10_see 29 = .ok (.getfield 54, 3) := by decide +kernel
theorem dX10_see_32 : decode cX10_see 32 = .ok (.iload_n 1, 1) := by decide +kernel
theorem dX10_see_33 : decode cX10_see 33 = .ok (.iload_n 2, 1) := by decide +kernel
theorem dX10_see_34 : decode cX10_see 34 = .ok (.invokevirtual 294, 3) := by decide +kernel
theorem dX10_see_37 : decode cX10_see 37 = .ok (.aload_n 0, 1) := by decide +kernel
theorem dX10_see_38 : decode cX10_see 38 = .ok (.getfield 54, 3) := by decide +kernel
theorem dX10_see_41 : decode cX10_see 41 = .ok (.getfield 156, 3) := by decide +kernel
theorem dX10_see_44 : decode cX10_see 44 = .ok (.ireturn, 1) := by decide +kernel
theorem dX10_quick_0 : decode cX10_quick 0 = .ok (.iload_n 1, 1) := by decide +kernel
theorem dX10_quick_1 : decode cX10_quick 1 = .ok (.tableswitch 79 0 2 #[27, 35, 57], 27) := by decide +kernel
theorem dX10_quick_28 : decode cX10_quick 28 = .ok (.aload_n 0, 1) := by decide +kernel
theorem dX10_quick_29 : decode cX10_quick 29 = .ok (.getfield 54, 3) := by decide +kernel
theorem dX10_quick_32 : decode cX10_quick 32 = .ok (.invokevirtual 297, 3) := by decide +kernel
theorem dX10_quick_35 : decode cX10_quick 35 = .ok (.ireturn, 1) := by decide +kernel
theorem dX10_quick_36 : decode cX10_quick 36 = .ok (.aload_n 0, 1) := by decide +kernel
theorem dX10_quick_37 : decode cX10_quick 37 = .ok (.getfield 54, 3) := by decide +kernel
theorem dX10_quick_40 : decode cX10_quick 40 = .ok (.invokevirtual 297, 3) := by decide +kernel
theorem dX10_quick_43 : decode cX10_quick 43 = .ok (.ifCond .ne 7, 3) := by decide +kernel
theorem dX10_quick_46 : decode cX10_quick 46 = .ok (.iconst (-1), 1) := by decide +kernel
theorem dX10_quick_47 : decode cX10_quick 47 = .ok (.goto 10, 3) := by decide +kernel
theorem dX10_quick_50 : decode cX10_quick 50 = .ok (.aload_n 0, 1) := by decide +kernel
theorem dX10_quick_51 : decode cX10_quick 51 = .ok (.getfield 54, 3) := by decide +kernel
theorem dX10_quick_54 : decode cX10_quick 54 = .ok (.getfield 300, 3) := by decide +kernel
theorem dX10_quick_57 : decode cX10_quick 57 = .ok (.ireturn, 1) := by decide +kernel
theorem dX10_quick_58 : decode cX10_quick 58 = .ok (.aload_n 0, 1) := by decide +kernel
theorem dX10_quick_59 : decode cX10_quick 59 = .ok (.getfield 54, 3) := by decide +kernel
theorem dX10_quick_62 : decode cX10_quick 62 = .ok (.invokevirtual 297, 3) := by decide +kernel
theorem dX10_quick_65 : decode cX10_quick 65 = .ok (.ifCond .ne 7, 3) := by decide +kernel
theorem dX10_quick_68 : decode cX10_quick 68 = .ok (.iconst (-1), 1) := by decide +kernel
theorem dX10_quick_69 : decode cX10_quick 69 = .ok (.goto 10, 3) := by decide +kernel
theorem dX10_quick_72 : decode cX10_quick 72 = .ok (.aload_n 0, 1) := by decide +kernel
theorem dX10_quick_73 : decode cX10_quick 73 = .ok (.getfield 54, 3) := by decide +kernel
theorem dX10_quick_76 : decode cX10_quick 76 = .ok (.getfield 303, 3) := by decide +kernel
theorem dX10_quick_79 : decode cX10_quick 79 = .ok (.ireturn, 1) := by decide +kernel
theorem dX10_quick_80 : decode cX10_quick 80 = .ok (.ldc 79, 2) := by decide +kernel
theorem dX10_quick_82 : decode cX10_quick 82 = .ok (.ireturn, 1) := by decide +kernel
theorem dX10_watch_0 : decode cX10_watch 0 = .ok (.aload_n 0, 1) := by decide +kernel
theorem dX10_watch_1 : decode cX10_watch 1 = .ok (.getfield 54, 3) := by decide +kernel
theorem dX10_watch_4 : decode cX10_watch 4 = .ok (.invokevirtual 306, 3) := by decide +kernel
theorem dX10_watch_7 : decode cX10_watch 7 = .ok (.ireturn, 1) := by decide +kernel
theorem dX10_write_0 : decode cX10_write 0 = .ok (.aload_n 0, 1) := by decide +kernel
theorem dX10_write_1 : decode cX10_write 1 = .ok (.getfield 27, 3) := by decide +kernel
theorem dX10_write_4 : decode cX10_write 4 = .ok (.iload_n 1, 1) := by decide +kernel
theorem dX10_write_5 : decode cX10_write 5 = .ok (.invokevirtual 203, 3) := by decide +kernel
theorem dX10_write_8 : decode cX10_write 8 = .ok (.ifCond .eq 14, 3) := by decide +kernel
theorem dX10_write_11 : decode cX10_write 11 = .ok (.aload_n 0, 1) := by decide +kernel
theorem dX10_write_12 : decode cX10_write 12 = .ok (.getfield 27, 3) := by decide +kernel
theorem dX10_write_15 : decode cX10_write 15 = .ok (.iload_n 2, 1) := by decide +kernel
theorem dX10_write_16 : decode cX10_write 16 = .ok (.invokevirtual 257, 3) := by decide +kernel
theorem dX10_write_19 : decode cX10_write 19 = .ok (.ifCond .ne 6, 3) := by decide +kernel
theorem dX10_write_22 : decode cX10_write 22 = .ok (.ldc 164, 2) := by decide +kernel
theorem dX10_write_24 : decode cX10_write 24 = .ok (.ireturn, 1) := by decide +kernel
theorem dX10_write_25 : decode cX10_write 25 = .ok (.aload_n 0, 1) := by decide +kernel
theorem dX10_write_26 : decode cX10_write 26 = .ok (.getfield 61, 3) := by decide +kernel
theorem dX10_write_29 : decode cX10_write 29 = .ok (.getfield 111, 3) := by decide +kernel
theorem dX10_write_32 : decode cX10_write 32 = .ok (.bipush 15, 2) := by decide +kernel
theorem dX10_write_34 : decode cX10_write 34 = .ok (.if_icmp .lt 6, 3) := by decide +kernel
theorem dX10_write_37 : decode cX10_write 37 = .ok (.ldc 84, 2) := by decide +kernel
theorem dX10_write_39 : decode cX10_write 39 = .ok (.ireturn, 1) := by decide +kernel
theorem dX10_write_40 : decode cX10_write 40 = .ok (.aload_n 0, 1) := by decide +kernel
theorem dX10_write_41 : decode cX10_write 41 = .ok (.getfield 61, 3) := by decide +kernel
theorem dX10_write_44 : decode cX10_write 44 = .ok (.iload_n 1, 1) := by decide +kernel
theorem dX10_write_45 : decode cX10_write 45 = .ok (.iload_n 2, 1) := by decide +kernel
theorem dX10_write_46 : decode cX10_write 46 = .ok (.invokevirtual 309, 3) := by decide +kernel
theorem dX10_write_49 : decode cX10_write 49 = .ok (.aload_n 0, 1) := by decide +kernel
theorem dX10_write_50 : decode cX10_write 50 = .ok (.getfield 61, 3) := by decide +kernel
theorem dX10_write_53 : decode cX10_write 53 = .ok (.getfield 111, 3) := by decide +kernel
theorem dX10_write_56 : decode cX10_write 56 = .ok (.ireturn, 1) := by decide +kernel
theorem dX10_tear_0 : decode cX10_tear 0 = .ok (.aload_n 0, 1) := by decide +kernel
theorem dX10_tear_1 : decode cX10_tear 1 = .ok (.getfield 54, 3) := by decide +kernel
theorem dX10_tear_4 : decode cX10_tear 4 = .ok (.getfield 156, 3) := by decide +kernel
theorem dX10_tear_7 : decode cX10_tear 7 = .ok (.aload_n 0, 1) := by decide +kernel
theorem dX10_tear_8 : decode cX10_tear 8 = .ok (.getfield 61, 3) := by decide +kernel
theorem dX10_tear_11 : decode cX10_tear 11 = .ok (.getfield 111, 3) := by decide +kernel
theorem dX10_tear_14 : decode cX10_tear 14 = .ok (.iadd, 1) := by decide +kernel
theorem dX10_tear_15 : decode cX10_tear 15 = .ok (.istore_n 1, 1) := by decide +kernel
theorem dX10_tear_16 : decode cX10_tear 16 = .ok (.aload_n 0, 1) := by decide +kernel
theorem dX10_tear_17 : decode cX10_tear 17 = .ok (.getfield 54, 3) := by decide +kernel
theorem dX10_tear_20 : decode cX10_tear 20 = .ok (.invokevirtual 108, 3) := by decide +kernel
theorem dX10_tear_23 : decode cX10_tear 23 = .ok (.aload_n 0, 1) := by decide +kernel
theorem dX10_tear_24 : decode cX10_tear 24 = .ok (.getfield 61, 3) := by decide +kernel
theorem dX10_tear_27 : decode cX10_tear 27 = .ok (.iconst 0, 1) := by decide +kernel
theorem dX10_tear_28 : decode cX10_tear 28 = .ok (.putfield 111, 3) := by decide +kernel
theorem dX10_tear_31 : decode cX10_tear 31 = .ok (.iload_n 1, 1) := by decide +kernel
theorem dX10_tear_32 : decode cX10_tear 32 = .ok (.ireturn, 1) := by decide +kernel
theorem dX10_judge_0 : decode cX10_judge 0 = .ok (.aload_n 0, 1) := by decide +kernel
theorem dX10_judge_1 : decode cX10_judge 1 = .ok (.getfield 61, 3) := by decide +kernel
theorem dX10_judge_4 : decode cX10_judge 4 = .ok (.aload_n 0, 1) := by decide +kernel
theorem dX10_judge_5 : decode cX10_judge 5 = .ok (.getfield 32, 3) := by decide +kernel
theorem dX10_judge_8 : decode cX10_judge 8 = .ok (.invokevirtual 312, 3) := by decide +kernel
theorem dX10_judge_11 : decode cX10_judge 11 = .ok (.ireturn, 1) := by decide +kernel
theorem dX10_seed_0 : decode cX10_seed 0 = .ok (.iload_n 1, 1) := by decide +kernel
theorem dX10_seed_1 : decode cX10_seed 1 = .ok (.ifCond .ge 6, 3) := by decide +kernel
theorem dX10_seed_4 : decode cX10_seed 4 = .ok (.ldc 79, 2) := by decide +kernel
theorem dX10_seed_6 : decode cX10_seed 6 = .ok (.ireturn, 1) := by decide +kernel
theorem dX10_seed_7 : decode cX10_seed 7 = .ok (.aload_n 0, 1) := by decide +kernel
theorem dX10_seed_8 : decode cX10_seed 8 = .ok (.getfield 19, 3) := by decide +kernel
theorem dX10_seed_11 : decode cX10_seed 11 = .ok (.getfield 316, 3) := by decide +kernel
theorem dX10_seed_14 : decode cX10_seed 14 = .ok (.istore_n 2, 1) := by decide +kernel
theorem dX10_seed_15 : decode cX10_seed 15 = .ok (.aload_n 0, 1) := by decide +kernel
theorem dX10_seed_16 : decode cX10_seed 16 = .ok (.getfield 19, 3) := by decide +kernel
theorem dX10_seed_19 : decode cX10_seed 19 = .ok (.iload_n 1, 1) := by decide +kernel
theorem dX10_seed_20 : decode cX10_seed 20 = .ok (.putfield 316, 3) := by decide +kernel
theorem dX10_seed_23 : decode cX10_seed 23 = .ok (.iload_n 2, 1) := by decide +kernel
theorem dX10_seed_24 : decode cX10_seed 24 = .ok (.ireturn, 1) := by decide +kernel
theorem dX10_keep_0 : decode cX10_keep 0 = .ok (.iload_n 1, 1) := by decide +kernel
theorem dX10_keep_1 : decode cX10_keep 1 = .ok (.ifCond .lt 8, 3) := by decide +kernel
theorem dX10_keep_4 : decode cX10_keep 4 = .ok (.iload_n 1, 1) := by decide +kernel
theorem dX10_keep_5 : decode cX10_keep 5 = .ok (.iconst 2, 1) := by decide +kernel
theorem dX10_keep_6 : decode cX10_keep 6 = .ok (.if_icmp .lt 6, 3) := by decide +kernel
theorem dX10_keep_9 : decode cX10_keep 9 = .ok (.ldc 164, 2) := by decide +kernel
theorem dX10_keep_11 : decode cX10_keep 11 = .ok (.ireturn, 1) := by decide +kernel
theorem dX10_keep_12 : decode cX10_keep 12 = .ok (.aload_n 0, 1) := by decide +kernel
theorem dX10_keep_13 : decode cX10_keep 13 = .ok (.getfield 74, 3) := by decide +kernel
theorem dX10_keep_16 : decode cX10_keep 16 = .ok (.iload_n 1, 1) := by decide +kernel
theorem dX10_keep_17 : decode cX10_keep 17 = .ok (.aaload, 1) := by decide +kernel
theorem dX10_keep_18 : decode cX10_keep 18 = .ok (.astore_n 2, 1) := by decide +kernel
theorem dX10_keep_19 : decode cX10_keep 19 = .ok (.aload_n 2, 1) := by decide +kernel
theorem dX10_keep_20 : decode cX10_keep 20 = .ok (.iconst 1, 1) := by decide +kernel
theorem dX10_keep_21 : decode cX10_keep 21 = .ok (.putfield 115, 3) := by decide +kernel
theorem dX10_keep_24 : decode cX10_keep 24 = .ok (.aload_n 2, 1) := by decide +kernel
theorem dX10_keep_25 : decode cX10_keep 25 = .ok (.aload_n 0, 1) := by decide +kernel
theorem dX10_keep_26 : decode cX10_keep 26 = .ok (.getfield 19, 3) := by decide +kernel
theorem dX10_keep_29 : decode cX10_keep 29 = .ok (.getfield 316, 3) := by decide +kernel
theorem dX10_keep_32 : decode cX10_keep 32 = .ok (.putfield 319, 3) := by decide +kernel
theorem dX10_keep_35 : decode cX10_keep 35 = .ok (.aload_n 2, 1) := by decide +kernel
theorem dX10_keep_36 : decode cX10_keep 36 = .ok (.getfield 320, 3) := by decide +kernel
theorem dX10_keep_39 : decode cX10_keep 39 = .ok (.aload_n 0, 1) := by decide +kernel
theorem dX10_keep_40 : decode cX10_keep 40 = .ok (.getfield 32, 3) := by decide +kernel
theorem dX10_keep_43 : decode cX10_keep 43 = .ok (.invokevirtual 323, 3) := by decide +kernel
theorem dX10_keep_46 : decode cX10_keep 46 = .ok (.aload_n 0, 1) := by decide +kernel
theorem dX10_keep_47 : decode cX10_keep 47 = .ok (.getfield 68, 3) := by decide +kernel
theorem dX10_keep_50 : decode cX10_keep 50 = .ok (.invokevirtual 114, 3) := by decide +kernel
theorem dX10_keep_53 : decode cX10_keep 53 = .ok (.iconst 1, 1) := by decide +kernel
theorem dX10_keep_54 : decode cX10_keep 54 = .ok (.ireturn, 1) := by decide +kernel
theorem dX10_goBack_0 : decode cX10_goBack 0 = .ok (.iload_n 1, 1) := by decide +kernel
theorem dX10_goBack_1 : decode cX10_goBack 1 = .ok (.ifCond .lt 8, 3) := by decide +kernel
theorem dX10_goBack_4 : decode cX10_goBack 4 = .ok (.iload_n 1, 1) := by decide +kernel
theorem dX10_goBack_5 : decode cX10_goBack 5 = .ok (.iconst 2, 1) := by decide +kernel
theorem dX10_goBack_6 : decode cX10_goBack 6 = .ok (.if_icmp .lt 6, 3) := by decide +kernel
theorem dX10_goBack_9 : decode cX10_goBack 9 = .ok (.ldc 164, 2) := by decide +kernel
theorem dX10_goBack_11 : decode cX10_goBack 11 = .ok (.ireturn, 1) := by decide +kernel
theorem dX10_goBack_12 : decode cX10_goBack 12 = .ok (.aload_n 0, 1) := by decide +kernel
theorem dX10_goBack_13 : decode cX10_goBack 13 = .ok (.getfield 74, 3) := by decide +kernel
theorem dX10_goBack_16 : decode cX10_goBack 16 = .ok (.iload_n 1, 1) := by decide +kernel
theorem dX10_goBack_17 : decode cX10_goBack 17 = .ok (.aaload, 1) := by decide +kernel
theorem dX10_goBack_18 : decode cX10_goBack 18 = .ok (.astore_n 2, 1) := by decide +kernel
theorem dX10_goBack_19 : decode cX10_goBack 19 = .ok (.aload_n 2, 1) := by decide +kernel
theorem dX10_goBack_20 : decode cX10_goBack 20 = .ok (.getfield 115, 3) := by decide +kernel
theorem dX10_goBack_23 : decode cX10_goBack 23 = .ok (.ifCond .ne 6, 3) := by decide +kernel
theorem dX10_goBack_26 : decode cX10_goBack 26 = .ok (.ldc 235, 2) := by decide +kernel
theorem dX10_goBack_28 : decode cX10_goBack 28 = .ok (.ireturn, 1) := by decide +kernel
theorem dX10_goBack_29 : decode cX10_goBack 29 = .ok (.aload_n 0, 1) := by decide +kernel
theorem dX10_goBack_30 : decode cX10_goBack 30 = .ok (.getfield 19, 3) := by decide +kernel
theorem dX10_goBack_33 : decode cX10_goBack 33 = .ok (.aload_n 2, 1) := by decide +kernel
theorem dX10_goBack_34 : decode cX10_goBack 34 = .ok (.getfield 319, 3) := by decide +kernel
theorem dX10_goBack_37 : decode cX10_goBack 37 = .ok (.putfield 316, 3) := by decide +kernel
theorem dX10_goBack_40 : decode cX10_goBack 40 = .ok (.aload_n 0, 1) := by decide +kernel
theorem dX10_goBack_41 : decode cX10_goBack 41 = .ok (.getfield 32, 3) := by decide +kernel
theorem dX10_goBack_44 : decode cX10_goBack 44 = .ok (.aload_n 2, 1) := by decide +kernel
theorem dX10_goBack_45 : decode cX10_goBack 45 = .ok (.getfield 320, 3) := by decide +kernel
theorem dX10_goBack_48 : decode cX10_goBack 48 = .ok (.invokevirtual 323, 3) := by decide +kernel
theorem dX10_goBack_51 : decode cX10_goBack 51 = .ok (.aload_n 0, 1) := by decide +kernel
theorem dX10_goBack_52 : decode cX10_goBack 52 = .ok (.getfield 68, 3) := by decide +kernel
theorem dX10_goBack_55 : decode cX10_goBack 55 = .ok (.invokevirtual 114, 3) := by decide +kernel
theorem dX10_goBack_58 : decode cX10_goBack 58 = .ok (.iconst 1, 1) := by decide +kernel
theorem dX10_goBack_59 : decode cX10_goBack 59 = .ok (.ireturn, 1) := by decide +kernel
theorem dX10_partOf_0 : decode cX10_partOf 0 = .ok (.iload_n 0, 1) := by decide +kernel
theorem dX10_partOf_1 : decode cX10_partOf 1 = .ok (.i2l, 1) := by decide +kernel
theorem dX10_partOf_2 : decode cX10_partOf 2 = .ok (.iload_n 1, 1) := by decide +kernel
theorem dX10_partOf_3 : decode cX10_partOf 3 = .ok (.i2l, 1) := by decide +kernel
theorem dX10_partOf_4 : decode cX10_partOf 4 = .ok (.lmul, 1) := by decide +kernel
theorem dX10_partOf_5 : decode cX10_partOf 5 = .ok (.ldc2_w 325, 3) := by decide +kernel
theorem dX10_partOf_8 : decode cX10_partOf 8 = .ok (.ldiv, 1) := by decide +kernel
theorem dX10_partOf_9 : decode cX10_partOf 9 = .ok (.l2i, 1) := by decide +kernel
theorem dX10_partOf_10 : decode cX10_partOf 10 = .ok (.ireturn, 1) := by decide +kernel
