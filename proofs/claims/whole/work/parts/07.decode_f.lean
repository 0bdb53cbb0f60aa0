theorem dX11_way_95 : decode cX11_way 95 = .ok (.aload_n 0, 1) := by decide +kernel
theorem dX11_way_96 : decode cX11_way 96 = .ok (.getfield 16, 3) := by decide +kernel
theorem dX11_way_99 : decode cX11_way 99 = .ok (.iconst 1, 1) := by decide +kernel
theorem dX11_way_100 : decode cX11_way 100 = .ok (.iaload, 1) := by decide +kernel
theorem dX11_way_101 : decode cX11_way 101 = .ok (.if_icmp .ge 58, 3) := by decide +kernel
theorem dX11_way_104 : decode cX11_way 104 = .ok (.aload_n 0, 1) := by decide +kernel
theorem dX11_way_105 : decode cX11_way 105 = .ok (.iload 6, 2) := by decide +kernel
theorem dX11_way_107 : decode cX11_way 107 = .ok (.aload_n 0, 1) := by decide +kernel
theorem dX11_way_108 : decode cX11_way 108 = .ok (.getfield 19, 3) := by decide +kernel
theorem dX11_way_111 : decode cX11_way 111 = .ok (.iconst 0, 1) := by decide +kernel
theorem dX11_way_112 : decode cX11_way 112 = .ok (.iload_n 1, 1) := by decide +kernel
theorem dX11_way_113 : decode cX11_way 113 = .ok (.iadd, 1) := by decide +kernel
theorem dX11_way_114 : decode cX11_way 114 = .ok (.iaload, 1) := by decide +kernel
theorem dX11_way_115 : decode cX11_way 115 = .ok (.invokevirtual 193, 3) := by decide +kernel
theorem dX11_way_118 : decode cX11_way 118 = .ok (.istore 7, 2) := by decide +kernel
theorem dX11_way_120 : decode cX11_way 120 = .ok (.iload 4, 2) := by decide +kernel
theorem dX11_way_122 : decode cX11_way 122 = .ok (.iload 6, 2) := by decide +kernel
theorem dX11_way_124 : decode cX11_way 124 = .ok (.invokestatic 151, 3) := by decide +kernel
theorem dX11_way_127 : decode cX11_way 127 = .ok (.ifCond .eq 26, 3) := by decide +kernel
theorem dX11_way_130 : decode cX11_way 130 = .ok (.iload 7, 2) := by decide +kernel
theorem dX11_way_132 : decode cX11_way 132 = .ok (.iconst (-1), 1) := by decide +kernel
theorem dX11_way_133 : decode cX11_way 133 = .ok (.if_icmp .eq 20, 3) := by decide +kernel
theorem dX11_way_136 : decode cX11_way 136 = .ok (.aload_n 0, 1) := by decide +kernel
theorem dX11_way_137 : decode cX11_way 137 = .ok (.getfield 44, 3) := by decide +kernel
theorem dX11_way_140 : decode cX11_way 140 = .ok (.iload 7, 2) := by decide +kernel
theorem dX11_way_142 : decode cX11_way 142 = .ok (.iaload, 1) := by decide +kernel
theorem dX11_way_143 : decode cX11_way 143 = .ok (.iload 5, 2) := by decide +kernel
theorem dX11_way_145 : decode cX11_way 145 = .ok (.iconst 1, 1) := by decide +kernel
theorem dX11_way_146 : decode cX11_way 146 = .ok (.isub, 1) := by decide +kernel
theorem dX11_way_147 : decode cX11_way 147 = .ok (.if_icmp .ne 6, 3) := by decide +kernel
theorem dX11_way_150 : decode cX11_way 150 = .ok (.iload 6, 2) := by decide +kernel
theorem dX11_way_152 : decode cX11_way 152 = .ok (.ireturn, 1) := by decide +kernel
theorem dX11_way_153 : decode cX11_way 153 = .ok (.iinc 6 1, 3) := by decide +kernel
theorem dX11_way_156 : decode cX11_way 156 = .ok (.goto (-63), 3) := by decide +kernel
theorem dX11_way_159 : decode cX11_way 159 = .ok (.iconst (-1), 1) := by decide +kernel
theorem dX11_way_160 : decode cX11_way 160 = .ok (.ireturn, 1) := by decide +kernel
theorem dX11_safest_0 : decode cX11_safest 0 = .ok (.aload_n 0, 1) := by decide +kernel
theorem dX11_safest_1 : decode cX11_safest 1 = .ok (.iconst 0, 1) := by decide +kernel
theorem dX11_safest_2 : decode cX11_safest 2 = .ok (.putfield 63, 3) := by decide +kernel
theorem dX11_safest_5 : decode cX11_safest 5 = .ok (.aload_n 0, 1) := by decide +kernel
theorem dX11_safest_6 : decode cX11_safest 6 = .ok (.iload_n 1, 1) := by decide +kernel
theorem dX11_safest_7 : decode cX11_safest 7 = .ok (.invokevirtual 186, 3) := by decide +kernel
theorem dX11_safest_10 : decode cX11_safest 10 = .ok (.ifCond .eq 11, 3) := by decide +kernel
theorem dX11_safest_13 : decode cX11_safest 13 = .ok (.aload_n 0, 1) := by decide +kernel
theorem dX11_safest_14 : decode cX11_safest 14 = .ok (.iload_n 2, 1) := by decide +kernel
theorem dX11_safest_15 : decode cX11_safest 15 = .ok (.invokevirtual 223, 3) := by decide +kernel
theorem dX11_safest_18 : decode cX11_safest 18 = .ok (.ifCond .ne 6, 3) := by decide +kernel
theorem dX11_safest_21 : decode cX11_safest 21 = .ok (.ldc 182, 2) := by decide +kernel
theorem dX11_safest_23 : decode cX11_safest 23 = .ok (.ireturn, 1) := by decide +kernel
theorem dX11_safest_24 : decode cX11_safest 24 = .ok (.iload_n 3, 1) := by decide +kernel
theorem dX11_safest_25 : decode cX11_safest 25 = .ok (.iconst 0, 1) := by decide +kernel
theorem dX11_safest_26 : decode cX11_safest 26 = .ok (.iconst 1, 1) := by decide +kernel
theorem dX11_safest_27 : decode cX11_safest 27 = .ok (.invokestatic 66, 3) := by decide +kernel
theorem dX11_safest_30 : decode cX11_safest 30 = .ok (.ifCond .ne 6, 3) := by decide +kernel
theorem dX11_safest_33 : decode cX11_safest 33 = .ok (.ldc 70, 2) := by decide +kernel
theorem dX11_safest_35 : decode cX11_safest 35 = .ok (.ireturn, 1) := by decide +kernel
theorem dX11_safest_36 : decode cX11_safest 36 = .ok (.aload_n 0, 1) := by decide +kernel
theorem dX11_safest_37 : decode cX11_safest 37 = .ok (.getfield 19, 3) := by decide +kernel
theorem dX11_safest_40 : decode cX11_safest 40 = .ok (.iconst 0, 1) := by decide +kernel
theorem dX11_safest_41 : decode cX11_safest 41 = .ok (.iload_n 1, 1) := by decide +kernel
theorem dX11_safest_42 : decode cX11_safest 42 = .ok (.iadd, 1) := by decide +kernel
theorem dX11_safest_43 : decode cX11_safest 43 = .ok (.iaload, 1) := by decide +kernel
theorem dX11_safest_44 : decode cX11_safest 44 = .ok (.iload_n 2, 1) := by decide +kernel
theorem dX11_safest_45 : decode cX11_safest 45 = .ok (.if_icmp .ne 14, 3) := by decide +kernel
theorem dX11_safest_48 : decode cX11_safest 48 = .ok (.iload_n 3, 1) := by decide +kernel
theorem dX11_safest_49 : decode cX11_safest 49 = .ok (.ifCond .ne 8, 3) := by decide +kernel
theorem dX11_safest_52 : decode cX11_safest 52 = .ok (.ldc 226, 2) := by decide +kernel
theorem dX11_safest_54 : decode cX11_safest 54 = .ok (.goto 4, 3) := by decide +kernel
theorem dX11_safest_57 : decode cX11_safest 57 = .ok (.iconst (-1), 1) := by decide +kernel
theorem dX11_safest_58 : decode cX11_safest 58 = .ok (.ireturn, 1) := by decide +kernel
theorem dX11_safest_59 : decode cX11_safest 59 = .ok (.aload_n 0, 1) := by decide +kernel
theorem dX11_safest_60 : decode cX11_safest 60 = .ok (.iload_n 1, 1) := by decide +kernel
theorem dX11_safest_61 : decode cX11_safest 61 = .ok (.invokevirtual 189, 3) := by decide +kernel
theorem dX11_safest_64 : decode cX11_safest 64 = .ok (.istore 4, 2) := by decide +kernel
theorem dX11_safest_66 : decode cX11_safest 66 = .ok (.iconst (-1), 1) := by decide +kernel
theorem dX11_safest_67 : decode cX11_safest 67 = .ok (.istore 5, 2) := by decide +kernel
theorem dX11_safest_69 : decode cX11_safest 69 = .ok (.iconst (-1), 1) := by decide +kernel
theorem dX11_safest_70 : decode cX11_safest 70 = .ok (.istore 6, 2) := by decide +kernel
theorem dX11_safest_72 : decode cX11_safest 72 = .ok (.iconst 1, 1) := by decide +kernel
theorem dX11_safest_73 : decode cX11_safest 73 = .ok (.aload_n 0, 1) := by decide +kernel
theorem dX11_safest_74 : decode cX11_safest 74 = .ok (.getfield 19, 3) := by decide +kernel
theorem dX11_safest_77 : decode cX11_safest 77 = .ok (.iconst 0, 1) := by decide +kernel
theorem dX11_safest_78 : decode cX11_safest 78 = .ok (.iload_n 1, 1) := by decide +kernel
theorem dX11_safest_79 : decode cX11_safest 79 = .ok (.iadd, 1) := by decide +kernel
theorem dX11_safest_80 : decode cX11_safest 80 = .ok (.iaload, 1) := by decide +kernel
theorem dX11_safest_81 : decode cX11_safest 81 = .ok (.ishl, 1) := by decide +kernel
theorem dX11_safest_82 : decode cX11_safest 82 = .ok (.istore 7, 2) := by decide +kernel
theorem dX11_safest_84 : decode cX11_safest 84 = .ok (.iconst 0, 1) := by decide +kernel
theorem dX11_safest_85 : decode cX11_safest 85 = .ok (.istore 8, 2) := by decide +kernel
theorem dX11_safest_87 : decode cX11_safest 87 = .ok (.aload_n 0, 1) := by decide +kernel
theorem dX11_safest_88 : decode cX11_safest 88 = .ok (.getfield 50, 3) := by decide +kernel
theorem dX11_safest_91 : decode cX11_safest 91 = .ok (.iconst 0, 1) := by decide +kernel
theorem dX11_safest_92 : decode cX11_safest 92 = .ok (.aload_n 0, 1) := by decide +kernel
theorem dX11_safest_93 : decode cX11_safest 93 = .ok (.getfield 19, 3) := by decide +kernel
theorem dX11_safest_96 : decode cX11_safest 96 = .ok (.iconst 0, 1) := by decide +kernel
theorem dX11_safest_97 : decode cX11_safest 97 = .ok (.iload_n 1, 1) := by decide +kernel
theorem dX11_safest_98 : decode cX11_safest 98 = .ok (.iadd, 1) := by decide +kernel
theorem dX11_safest_99 : decode cX11_safest 99 = .ok (.iaload, 1) := by decide +kernel
theorem dX11_safest_100 : decode cX11_safest 100 = .ok (.iastore, 1) := by decide +kernel
theorem dX11_safest_101 : decode cX11_safest 101 = .ok (.aload_n 0, 1) := by decide +kernel
theorem dX11_safest_102 : decode cX11_safest 102 = .ok (.getfield 53, 3) := by decide +kernel
theorem dX11_safest_105 : decode cX11_safest 105 = .ok (.iconst 0, 1) := by decide +kernel
theorem dX11_safest_106 : decode cX11_safest 106 = .ok (.iconst 0, 1) := by decide +kernel
theorem dX11_safest_107 : decode cX11_safest 107 = .ok (.iastore, 1) := by decide +kernel
theorem dX11_safest_108 : decode cX11_safest 108 = .ok (.aload_n 0, 1) := by decide +kernel
theorem dX11_safest_109 : decode cX11_safest 109 = .ok (.getfield 56, 3) := by decide +kernel
theorem dX11_safest_112 : decode cX11_safest 112 = .ok (.iconst 0, 1) := by decide +kernel
theorem dX11_safest_113 : decode cX11_safest 113 = .ok (.ldc 226, 2) := by decide +kernel
theorem dX11_safest_115 : decode cX11_safest 115 = .ok (.iastore, 1) := by decide +kernel
theorem dX11_safest_116 : decode cX11_safest 116 = .ok (.iload 8, 2) := by decide +kernel
theorem dX11_safest_118 : decode cX11_safest 118 = .ok (.ifCond .lt 216, 3) := by decide +kernel
theorem dX11_safest_121 : decode cX11_safest 121 = .ok (.aload_n 0, 1) := by decide +kernel
theorem dX11_safest_122 : decode cX11_safest 122 = .ok (.getfield 53, 3) := by decide +kernel
theorem dX11_safest_125 : decode cX11_safest 125 = .ok (.iload 8, 2) := by decide +kernel
theorem dX11_safest_127 : decode cX11_safest 127 = .ok (.iaload, 1) := by decide +kernel
theorem dX11_safest_128 : decode cX11_safest 128 = .ok (.istore 9, 2) := by decide +kernel
theorem dX11_safest_130 : decode cX11_safest 130 = .ok (.iload 9, 2) := by decide +kernel
theorem dX11_safest_132 : decode cX11_safest 132 = .ok (.aload_n 0, 1) := by decide +kernel
theorem dX11_safest_133 : decode cX11_safest 133 = .ok (.getfield 16, 3) := by decide +kernel
theorem dX11_safest_136 : decode cX11_safest 136 = .ok (.iconst 1, 1) := by decide +kernel
theorem dX11_safest_137 : decode cX11_safest 137 = .ok (.iaload, 1) := by decide +kernel
theorem dX11_safest_138 : decode cX11_safest 138 = .ok (.if_icmp .eq 14, 3) := by decide +kernel
theorem dX11_safest_141 : decode cX11_safest 141 = .ok (.aload_n 0, 1) := by decide +kernel
theorem dX11_safest_142 : decode cX11_safest 142 = .ok (.getfield 50, 3) := by decide +kernel
theorem dX11_safest_145 : decode cX11_safest 145 = .ok (.iload 8, 2) := by decide +kernel
theorem dX11_safest_147 : decode cX11_safest 147 = .ok (.iaload, 1) := by decide +kernel
theorem dX11_safest_148 : decode cX11_safest 148 = .ok (.iload_n 2, 1) := by decide +kernel
theorem dX11_safest_149 : decode cX11_safest 149 = .ok (.if_icmp .ne 25, 3) := by decide +kernel
theorem dX11_safest_152 : decode cX11_safest 152 = .ok (.iload 7, 2) := by decide +kernel
theorem dX11_safest_154 : decode cX11_safest 154 = .ok (.iconst 1, 1) := by decide +kernel
theorem dX11_safest_155 : decode cX11_safest 155 = .ok (.aload_n 0, 1) := by decide +kernel
theorem dX11_safest_156 : decode cX11_safest 156 = .ok (.getfield 50, 3) := by decide +kernel
theorem dX11_safest_159 : decode cX11_safest 159 = .ok (.iload 8, 2) := by decide +kernel
theorem dX11_safest_161 : decode cX11_safest 161 = .ok (.iaload, 1) := by decide +kernel
theorem dX11_safest_162 : decode cX11_safest 162 = .ok (.ishl, 1) := by decide +kernel
theorem dX11_safest_163 : decode cX11_safest 163 = .ok (.iconst (-1), 1) := by decide +kernel
theorem dX11_safest_164 : decode cX11_safest 164 = .ok (.ixor, 1) := by decide +kernel
theorem dX11_safest_165 : decode cX11_safest 165 = .ok (.iand, 1) := by decide +kernel
theorem dX11_safest_166 : decode cX11_safest 166 = .ok (.istore 7, 2) := by decide +kernel
theorem dX11_safest_168 : decode cX11_safest 168 = .ok (.iinc 8 (-1), 3) := by decide +kernel
theorem dX11_safest_171 : decode cX11_safest 171 = .ok (.goto 160, 3) := by decide +kernel
theorem dX11_safest_174 : decode cX11_safest 174 = .ok (.aload_n 0, 1) := by decide +kernel
theorem dX11_safest_175 : decode cX11_safest 175 = .ok (.getfield 53, 3) := by decide +kernel
theorem dX11_safest_178 : decode cX11_safest 178 = .ok (.iload 8, 2) := by decide +kernel
theorem dX11_safest_180 : decode cX11_safest 180 = .ok (.dup2, 1) := by decide +kernel
theorem dX11_safest_181 : decode cX11_safest 181 = .ok (.iaload, 1) := by decide +kernel
theorem dX11_safest_182 : decode cX11_safest 182 = .ok (.iconst 1, 1) := by decide +kernel
theorem dX11_safest_183 : decode cX11_safest 183 = .ok (.iadd, 1) := by decide +kernel
theorem dX11_safest_184 : decode cX11_safest 184 = .ok (.iastore, 1) := by decide +kernel
theorem dX11_safest_185 : decode cX11_safest 185 = .ok (.aload_n 0, 1) := by decide +kernel
theorem dX11_safest_186 : decode cX11_safest 186 = .ok (.iload 9, 2) := by decide +kernel
theorem dX11_safest_188 : decode cX11_safest 188 = .ok (.aload_n 0, 1) := by decide +kernel
theorem dX11_safest_189 : decode cX11_safest 189 = .ok (.getfield 50, 3) := by decide +kernel
theorem dX11_safest_192 : decode cX11_safest 192 = .ok (.iload 8, 2) := by decide +kernel
theorem dX11_safest_194 : decode cX11_safest 194 = .ok (.iaload, 1) := by decide +kernel
theorem dX11_safest_195 : decode cX11_safest 195 = .ok (.invokevirtual 193, 3) := by decide +kernel
theorem dX11_safest_198 : decode cX11_safest 198 = .ok (.istore 10, 2) := by decide +kernel
theorem dX11_safest_200 : decode cX11_safest 200 = .ok (.iload 4, 2) := by decide +kernel
theorem dX11_safest_202 : decode cX11_safest 202 = .ok (.iload 9, 2) := by decide +kernel
theorem dX11_safest_204 : decode cX11_safest 204 = .ok (.invokestatic 151, 3) := by decide +kernel
theorem dX11_safest_207 : decode cX11_safest 207 = .ok (.ifCond .eq 124, 3) := by decide +kernel
theorem dX11_safest_210 : decode cX11_safest 210 = .ok (.iload 10, 2) := by decide +kernel
theorem dX11_safest_212 : decode cX11_safest 212 = .ok (.iconst (-1), 1) := by decide +kernel
theorem dX11_safest_213 : decode cX11_safest 213 = .ok (.if_icmp .eq 118, 3) := by decide +kernel
theorem dX11_safest_216 : decode cX11_safest 216 = .ok (.iload 7, 2) := by decide +kernel
theorem dX11_safest_218 : decode cX11_safest 218 = .ok (.iload 10, 2) := by decide +kernel
theorem dX11_safest_220 : decode cX11_safest 220 = .ok (.invokestatic 151, 3) := by decide +kernel
theorem dX11_safest_223 : decode cX11_safest 223 = .ok (.ifCond .ne 108, 3) := by decide +kernel
theorem dX11_safest_226 : decode cX11_safest 226 = .ok (.aload_n 0, 1) := by decide +kernel
theorem dX11_safest_227 : decode cX11_safest 227 = .ok (.getfield 56, 3) := by decide +kernel
theorem dX11_safest_230 : decode cX11_safest 230 = .ok (.iload 8, 2) := by decide +kernel
theorem dX11_safest_232 : decode cX11_safest 232 = .ok (.iaload, 1) := by decide +kernel
theorem dX11_safest_233 : decode cX11_safest 233 = .ok (.i2l, 1) := by decide +kernel
theorem dX11_safest_234 : decode cX11_safest 234 = .ok (.bipush 100, 2) := by decide +kernel
theorem dX11_safest_236 : decode cX11_safest 236 = .ok (.aload_n 0, 1) := by decide +kernel
theorem dX11_safest_237 : decode cX11_safest 237 = .ok (.getfield 16, 3) := by decide +kernel
theorem dX11_safest_240 : decode cX11_safest 240 = .ok (.bipush 31, 2) := by decide +kernel
theorem dX11_safest_242 : decode cX11_safest 242 = .ok (.iload 9, 2) := by decide +kernel
theorem dX11_safest_244 : decode cX11_safest 244 = .ok (.iadd, 1) := by decide +kernel
theorem dX11_safest_245 : decode cX11_safest 245 = .ok (.iaload, 1) := by decide +kernel
theorem dX11_safest_246 : decode cX11_safest 246 = .ok (.isub, 1) := by decide +kernel
theorem dX11_safest_247 : decode cX11_safest 247 = .ok (.i2l, 1) := by decide +kernel
theorem dX11_safest_248 : decode cX11_safest 248 = .ok (.lmul, 1) := by decide +kernel
theorem dX11_safest_249 : decode cX11_safest 249 = .ok (.ldc2_w 227, 3) := by decide +kernel
theorem dX11_safest_252 : decode cX11_safest 252 = .ok (.ldiv, 1) := by decide +kernel
theorem dX11_safest_253 : decode cX11_safest 253 = .ok (.lstore 11, 2) := by decide +kernel
theorem dX11_safest_255 : decode cX11_safest 255 = .ok (.iinc 8 1, 3) := by decide +kernel
theorem dX11_safest_258 : decode cX11_safest 258 = .ok (.aload_n 0, 1) := by decide +kernel
theorem dX11_safest_259 : decode cX11_safest 259 = .ok (.getfield 50, 3) := by decide +kernel
theorem dX11_safest_262 : decode cX11_safest 262 = .ok (.iload 8, 2) := by decide +kernel
theorem dX11_safest_264 : decode cX11_safest 264 = .ok (.iload 10, 2) := by decide +kernel
theorem dX11_safest_266 : decode cX11_safest 266 = .ok (.iastore, 1) := by decide +kernel
theorem dX11_safest_267 : decode cX11_safest 267 = .ok (.aload_n 0, 1) := by decide +kernel
theorem dX11_safest_268 : decode cX11_safest 268 = .ok (.getfield 53, 3) := by decide +kernel
theorem dX11_safest_271 : decode cX11_safest 271 = .ok (.iload 8, 2) := by decide +kernel
theorem dX11_safest_273 : decode cX11_safest 273 = .ok (.iconst 0, 1) := by decide +kernel
theorem dX11_safest_274 : decode cX11_safest 274 = .ok (.iastore, 1) := by decide +kernel
theorem dX11_safest_275 : decode cX11_safest 275 = .ok (.aload_n 0, 1) := by decide +kernel
theorem dX11_safest_276 : decode cX11_safest 276 = .ok (.getfield 56, 3) := by decide +kernel
theorem dX11_safest_279 : decode cX11_safest 279 = .ok (.iload 8, 2) := by decide +kernel
theorem dX11_safest_281 : decode cX11_safest 281 = .ok (.lload 11, 2) := by decide +kernel
theorem dX11_safest_283 : decode cX11_safest 283 = .ok (.l2i, 1) := by decide +kernel
theorem dX11_safest_284 : decode cX11_safest 284 = .ok (.iastore, 1) := by decide +kernel
theorem dX11_safest_285 : decode cX11_safest 285 = .ok (.iload 7, 2) := by decide +kernel
theorem dX11_safest_287 : decode cX11_safest 287 = .ok (.iconst 1, 1) := by decide +kernel
theorem dX11_safest_288 : decode cX11_safest 288 = .ok (.iload 10, 2) := by decide +kernel
theorem dX11_safest_290 : decode cX11_safest 290 = .ok (.ishl, 1) := by decide +kernel
theorem dX11_safest_291 : decode cX11_safest 291 = .ok (.ior, 1) := by decide +kernel
theorem dX11_safest_292 : decode cX11_safest 292 = .ok (.istore 7, 2) := by decide +kernel
theorem dX11_safest_294 : decode cX11_safest 294 = .ok (.iload 10, 2) := by decide +kernel
theorem dX11_safest_296 : decode cX11_safest 296 = .ok (.iload_n 2, 1) := by decide +kernel
theorem dX11_safest_297 : decode cX11_safest 297 = .ok (.if_icmp .ne 34, 3) := by decide +kernel
theorem dX11_safest_300 : decode cX11_safest 300 = .ok (.aload_n 0, 1) := by decide +kernel
theorem dX11_safest_301 : decode cX11_safest 301 = .ok (.getfield 56, 3) := by decide +kernel
theorem dX11_safest_304 : decode cX11_safest 304 = .ok (.iload 8, 2) := by decide +kernel
theorem dX11_safest_306 : decode cX11_safest 306 = .ok (.iaload, 1) := by decide +kernel
theorem dX11_safest_307 : decode cX11_safest 307 = .ok (.iload 5, 2) := by decide +kernel
theorem dX11_safest_309 : decode cX11_safest 309 = .ok (.if_icmp .le 22, 3) := by decide +kernel
theorem dX11_safest_312 : decode cX11_safest 312 = .ok (.aload_n 0, 1) := by decide +kernel
theorem dX11_safest_313 : decode cX11_safest 313 = .ok (.getfield 56, 3) := by decide +kernel
theorem dX11_safest_316 : decode cX11_safest 316 = .ok (.iload 8, 2) := by decide +kernel
theorem dX11_safest_318 : decode cX11_safest 318 = .ok (.iaload, 1) := by decide +kernel
theorem dX11_safest_319 : decode cX11_safest 319 = .ok (.istore 5, 2) := by decide +kernel
theorem dX11_safest_321 : decode cX11_safest 321 = .ok (.aload_n 0, 1) := by decide +kernel
theorem dX11_safest_322 : decode cX11_safest 322 = .ok (.getfield 53, 3) := by decide +kernel
theorem dX11_safest_325 : decode cX11_safest 325 = .ok (.iconst 0, 1) := by decide +kernel
theorem dX11_safest_326 : decode cX11_safest 326 = .ok (.iaload, 1) := by decide +kernel
theorem dX11_safest_327 : decode cX11_safest 327 = .ok (.iconst 1, 1) := by decide +kernel
theorem dX11_safest_328 : decode cX11_safest 328 = .ok (.isub, 1) := by decide +kernel
theorem dX11_safest_329 : decode cX11_safest 329 = .ok (.istore 6, 2) := by decide +kernel
theorem dX11_safest_331 : decode cX11_safest 331 = .ok (.goto (-215), 3) := by decide +kernel
theorem dX11_safest_334 : decode cX11_safest 334 = .ok (.iload_n 3, 1) := by decide +kernel
theorem dX11_safest_335 : decode cX11_safest 335 = .ok (.ifCond .ne 8, 3) := by decide +kernel
theorem dX11_safest_338 : decode cX11_safest 338 = .ok (.iload 5, 2) := by decide +kernel
theorem dX11_safest_340 : decode cX11_safest 340 = .ok (.goto 5, 3) := by decide +kernel
theorem dX11_safest_343 : decode cX11_safest 343 = .ok (.iload 6, 2) := by decide +kernel
theorem dX11_safest_345 : decode cX11_safest 345 = .ok (.ireturn, 1) := by decide +kernel
theorem dX11_canKeep_0 : decode cX11_canKeep 0 = .ok (.aload_n 0, 1) := by decide +kernel
theorem dX11_canKeep_1 : decode cX11_canKeep 1 = .ok (.iload_n 3, 1) := by decide +kernel
theorem dX11_canKeep_2 : decode cX11_canKeep 2 = .ok (.invokevirtual 141, 3) := by decide +kernel
theorem dX11_canKeep_5 : decode cX11_canKeep 5 = .ok (.aload_n 0, 1) := by decide +kernel
theorem dX11_canKeep_6 : decode cX11_canKeep 6 = .ok (.iload_n 1, 1) := by decide +kernel
theorem dX11_canKeep_7 : decode cX11_canKeep 7 = .ok (.iload_n 2, 1) := by decide +kernel
theorem dX11_canKeep_8 : decode cX11_canKeep 8 = .ok (.invokevirtual 144, 3) := by decide +kernel
theorem dX11_canKeep_11 : decode cX11_canKeep 11 = .ok (.if_icmp .gt 7, 3) := by decide +kernel
theorem dX11_canKeep_14 : decode cX11_canKeep 14 = .ok (.iconst 1, 1) := by decide +kernel
theorem dX11_canKeep_15 : decode cX11_canKeep 15 = .ok (.goto 4, 3) := by decide +kernel
theorem dX11_canKeep_18 : decode cX11_canKeep 18 = .ok (.iconst 0, 1) := by decide +kernel
theorem dX11_canKeep_19 : decode cX11_canKeep 19 = .ok (.ireturn, 1) := by decide +kernel
theorem dX11_givesPosts_0 : decode cX11_givesPosts 0 = .ok (.iconst 1, 1) := by decide +kernel
theorem dX11_givesPosts_1 : decode cX11_givesPosts 1 = .ok (.aload_n 0, 1) := by decide +kernel
theorem dX11_givesPosts_2 : decode cX11_givesPosts 2 = .ok (.getfield 16, 3) := by decide +kernel
theorem dX11_givesPosts_5 : decode cX11_givesPosts 5 = .ok (.iconst 2, 1) := by decide +kernel
theorem dX11_givesPosts_6 : decode cX11_givesPosts 6 = .ok (.iaload, 1) := by decide +kernel
theorem dX11_givesPosts_7 : decode cX11_givesPosts 7 = .ok (.ishl, 1) := by decide +kernel
theorem dX11_givesPosts_8 : decode cX11_givesPosts 8 = .ok (.istore_n 2, 1) := by decide +kernel
theorem dX11_givesPosts_9 : decode cX11_givesPosts 9 = .ok (.aload_n 0, 1) := by decide +kernel
theorem dX11_givesPosts_10 : decode cX11_givesPosts 10 = .ok (.getfield 16, 3) := by decide +kernel
theorem dX11_givesPosts_13 : decode cX11_givesPosts 13 = .ok (.iconst 1, 1) := by decide +kernel
theorem dX11_givesPosts_14 : decode cX11_givesPosts 14 = .ok (.iaload, 1) := by decide +kernel
theorem dX11_givesPosts_15 : decode cX11_givesPosts 15 = .ok (.istore_n 3, 1) := by decide +kernel
theorem dX11_givesPosts_16 : decode cX11_givesPosts 16 = .ok (.iload_n 3, 1) := by decide +kernel
theorem dX11_givesPosts_17 : decode cX11_givesPosts 17 = .ok (.ifCond .lt 161, 3) := by decide +kernel
theorem dX11_givesPosts_20 : decode cX11_givesPosts 20 = .ok (.iconst 0, 1) := by decide +kernel
theorem dX11_givesPosts_21 : decode cX11_givesPosts 21 = .ok (.istore 4, 2) := by decide +kernel
theorem dX11_givesPosts_23 : decode cX11_givesPosts 23 = .ok (.iload 4, 2) := by decide +kernel
theorem dX11_givesPosts_25 : decode cX11_givesPosts 25 = .ok (.iload_n 2, 1) := by decide +kernel
theorem dX11_givesPosts_26 : decode cX11_givesPosts 26 = .ok (.if_icmp .ge 146, 3) := by decide +kernel
theorem dX11_givesPosts_29 : decode cX11_givesPosts 29 = .ok (.iload_n 3, 1) := by decide +kernel
theorem dX11_givesPosts_30 : decode cX11_givesPosts 30 = .ok (.aload_n 0, 1) := by decide +kernel
theorem dX11_givesPosts_31 : decode cX11_givesPosts 31 = .ok (.getfield 16, 3) := by decide +kernel
theorem dX11_givesPosts_34 : decode cX11_givesPosts 34 = .ok (.iconst 1, 1) := by decide +kernel
theorem dX11_givesPosts_35 : decode cX11_givesPosts 35 = .ok (.iaload, 1) := by decide +kernel
theorem dX11_givesPosts_36 : decode cX11_givesPosts 36 = .ok (.if_icmp .ne 7, 3) := by decide +kernel
theorem dX11_givesPosts_39 : decode cX11_givesPosts 39 = .ok (.iconst 0, 1) := by decide +kernel
theorem dX11_givesPosts_40 : decode cX11_givesPosts 40 = .ok (.goto 18, 3) := by decide +kernel
theorem dX11_givesPosts_43 : decode cX11_givesPosts 43 = .ok (.aload_n 0, 1) := by decide +kernel
theorem dX11_givesPosts_44 : decode cX11_givesPosts 44 = .ok (.getfield 47, 3) := by decide +kernel
theorem dX11_givesPosts_47 : decode cX11_givesPosts 47 = .ok (.sipush 512, 3) := by decide +kernel
theorem dX11_givesPosts_50 : decode cX11_givesPosts 50 = .ok (.iload_n 3, 1) := by decide +kernel
theorem dX11_givesPosts_51 : decode cX11_givesPosts 51 = .ok (.iconst 1, 1) := by decide +kernel
theorem dX11_givesPosts_52 : decode cX11_givesPosts 52 = .ok (.iadd, 1) := by decide +kernel
theorem dX11_givesPosts_53 : decode cX11_givesPosts 53 = .ok (.imul, 1) := by decide +kernel
theorem dX11_givesPosts_54 : decode cX11_givesPosts 54 = .ok (.iload 4, 2) := by decide +kernel
theorem dX11_givesPosts_56 : decode cX11_givesPosts 56 = .ok (.iadd, 1) := by decide +kernel
theorem dX11_givesPosts_57 : decode cX11_givesPosts 57 = .ok (.iaload, 1) := by decide +kernel
theorem dX11_givesPosts_58 : decode cX11_givesPosts 58 = .ok (.istore 5, 2) := by decide +kernel
theorem dX11_givesPosts_60 : decode cX11_givesPosts 60 = .ok (.iconst 0, 1) := by decide +kernel
theorem dX11_givesPosts_61 : decode cX11_givesPosts 61 = .ok (.istore 6, 2) := by decide +kernel
theorem dX11_givesPosts_63 : decode cX11_givesPosts 63 = .ok (.iload 6, 2) := by decide +kernel
theorem dX11_givesPosts_65 : decode cX11_givesPosts 65 = .ok (.aload_n 0, 1) := by decide +kernel
theorem dX11_givesPosts_66 : decode cX11_givesPosts 66 = .ok (.getfield 16, 3) := by decide +kernel
theorem dX11_givesPosts_69 : decode cX11_givesPosts 69 = .ok (.iconst 2, 1) := by decide +kernel
theorem dX11_givesPosts_70 : decode cX11_givesPosts 70 = .ok (.iaload, 1) := by decide +kernel
theorem dX11_givesPosts_71 : decode cX11_givesPosts 71 = .ok (.if_icmp .ge 80, 3) := by decide +kernel
theorem dX11_givesPosts_74 : decode cX11_givesPosts 74 = .ok (.iload_n 3, 1) := by decide +kernel
theorem dX11_givesPosts_75 : decode cX11_givesPosts 75 = .ok (.aload_n 0, 1) := by decide +kernel
theorem dX11_givesPosts_76 : decode cX11_givesPosts 76 = .ok (.getfield 16, 3) := by decide +kernel
theorem dX11_givesPosts_79 : decode cX11_givesPosts 79 = .ok (.iconst 1, 1) := by decide +kernel
theorem dX11_givesPosts_80 : decode cX11_givesPosts 80 = .ok (.iaload, 1) := by decide +kernel
theorem dX11_givesPosts_81 : decode cX11_givesPosts 81 = .ok (.if_icmp .ge 70, 3) := by decide +kernel
theorem dX11_givesPosts_84 : decode cX11_givesPosts 84 = .ok (.iload 4, 2) := by decide +kernel
theorem dX11_givesPosts_86 : decode cX11_givesPosts 86 = .ok (.iload 6, 2) := by decide +kernel
theorem dX11_givesPosts_88 : decode cX11_givesPosts 88 = .ok (.invokestatic 151, 3) := by decide +kernel
theorem dX11_givesPosts_91 : decode cX11_givesPosts 91 = .ok (.ifCond .ne 54, 3) := by decide +kernel
theorem dX11_givesPosts_94 : decode cX11_givesPosts 94 = .ok (.aload_n 0, 1) := by decide +kernel
theorem dX11_givesPosts_95 : decode cX11_givesPosts 95 = .ok (.iload_n 1, 1) := by decide +kernel
theorem dX11_givesPosts_96 : decode cX11_givesPosts 96 = .ok (.iload_n 3, 1) := by decide +kernel
theorem dX11_givesPosts_97 : decode cX11_givesPosts 97 = .ok (.iload 6, 2) := by decide +kernel
theorem dX11_givesPosts_99 : decode cX11_givesPosts 99 = .ok (.invokevirtual 229, 3) := by decide +kernel
theorem dX11_givesPosts_102 : decode cX11_givesPosts 102 = .ok (.ifCond .eq 43, 3) := by decide +kernel
theorem dX11_givesPosts_105 : decode cX11_givesPosts 105 = .ok (.iconst 1, 1) := by decide +kernel
theorem dX11_givesPosts_106 : decode cX11_givesPosts 106 = .ok (.aload_n 0, 1) := by decide +kernel
theorem dX11_givesPosts_107 : decode cX11_givesPosts 107 = .ok (.getfield 47, 3) := by decide +kernel
theorem dX11_givesPosts_110 : decode cX11_givesPosts 110 = .ok (.sipush 512, 3) := by decide +kernel
theorem dX11_givesPosts_113 : decode cX11_givesPosts 113 = .ok (.iload_n 3, 1) := by decide +kernel
theorem dX11_givesPosts_114 : decode cX11_givesPosts 114 = .ok (.iconst 1, 1) := by decide +kernel
theorem dX11_givesPosts_115 : decode cX11_givesPosts 115 = .ok (.iadd, 1) := by decide +kernel
theorem dX11_givesPosts_116 : decode cX11_givesPosts 116 = .ok (.imul, 1) := by decide +kernel
theorem dX11_givesPosts_117 : decode cX11_givesPosts 117 = .ok (.iload 4, 2) := by decide +kernel
theorem dX11_givesPosts_119 : decode cX11_givesPosts 119 = .ok (.iconst 1, 1) := by decide +kernel
theorem dX11_givesPosts_120 : decode cX11_givesPosts 120 = .ok (.iload 6, 2) := by decide +kernel
theorem dX11_givesPosts_122 : decode cX11_givesPosts 122 = .ok (.ishl, 1) := by decide +kernel
theorem dX11_givesPosts_123 : decode cX11_givesPosts 123 = .ok (.ior, 1) := by decide +kernel
theorem dX11_givesPosts_124 : decode cX11_givesPosts 124 = .ok (.iadd, 1) := by decide +kernel
theorem dX11_givesPosts_125 : decode cX11_givesPosts 125 = .ok (.iaload, 1) := by decide +kernel
theorem dX11_givesPosts_126 : decode cX11_givesPosts 126 = .ok (.iadd, 1) := by decide +kernel
theorem dX11_givesPosts_127 : decode cX11_givesPosts 127 = .ok (.istore 7, 2) := by decide +kernel
theorem dX11_givesPosts_129 : decode cX11_givesPosts 129 = .ok (.iload 7, 2) := by decide +kernel
theorem dX11_givesPosts_131 : decode cX11_givesPosts 131 = .ok (.iload 5, 2) := by decide +kernel
theorem dX11_givesPosts_133 : decode cX11_givesPosts 133 = .ok (.if_icmp .le 8, 3) := by decide +kernel
theorem dX11_givesPosts_136 : decode cX11_givesPosts 136 = .ok (.iload 7, 2) := by decide +kernel
theorem dX11_givesPosts_138 : decode cX11_givesPosts 138 = .ok (.goto 5, 3) := by decide +kernel
theorem dX11_givesPosts_141 : decode cX11_givesPosts 141 = .ok (.iload 5, 2) := by decide +kernel
theorem dX11_givesPosts_143 : decode cX11_givesPosts 143 = .ok (.istore 5, 2) := by decide +kernel
theorem dX11_givesPosts_145 : decode cX11_givesPosts 145 = .ok (.iinc 6 1, 3) := by decide +kernel
theorem dX11_givesPosts_148 : decode cX11_givesPosts 148 = .ok (.goto (-85), 3) := by decide +kernel
theorem dX11_givesPosts_151 : decode cX11_givesPosts 151 = .ok (.aload_n 0, 1) := by decide +kernel
theorem dX11_givesPosts_152 : decode cX11_givesPosts 152 = .ok (.getfield 47, 3) := by decide +kernel
theorem dX11_givesPosts_155 : decode cX11_givesPosts 155 = .ok (.sipush 512, 3) := by decide +kernel
theorem dX11_givesPosts_158 : decode cX11_givesPosts 158 = .ok (.iload_n 3, 1) := by decide +kernel
theorem dX11_givesPosts_159 : decode cX11_givesPosts 159 = .ok (.imul, 1) := by decide +kernel
theorem dX11_givesPosts_160 : decode cX11_givesPosts 160 = .ok (.iload 4, 2) := by decide +kernel
theorem dX11_givesPosts_162 : decode cX11_givesPosts 162 = .ok (.iadd, 1) := by decide +kernel
theorem dX11_givesPosts_163 : decode cX11_givesPosts 163 = .ok (.iload 5, 2) := by decide +kernel
theorem dX11_givesPosts_165 : decode cX11_givesPosts 165 = .ok (.iastore, 1) := by decide +kernel
theorem dX11_givesPosts_166 : decode cX11_givesPosts 166 = .ok (.iinc 4 1, 3) := by decide +kernel
theorem dX11_givesPosts_169 : decode cX11_givesPosts 169 = .ok (.goto (-146), 3) := by decide +kernel
theorem dX11_givesPosts_172 : decode cX11_givesPosts 172 = .ok (.iinc 3 (-1), 3) := by decide +kernel
theorem dX11_givesPosts_175 : decode cX11_givesPosts 175 = .ok (.goto (-159), 3) := by decide +kernel
theorem dX11_givesPosts_178 : decode cX11_givesPosts 178 = .ok (.return_, 1) := by decide +kernel
theorem dX11_posts_0 : decode cX11_posts 0 = .ok (.aload_n 0, 1) := by decide +kernel
theorem dX11_posts_1 : decode cX11_posts 1 = .ok (.iconst 0, 1) := by decide +kernel
theorem dX11_posts_2 : decode cX11_posts 2 = .ok (.putfield 63, 3) := by decide +kernel
theorem dX11_posts_5 : decode cX11_posts 5 = .ok (.aload_n 0, 1) := by decide +kernel
theorem dX11_posts_6 : decode cX11_posts 6 = .ok (.iload_n 1, 1) := by decide +kernel
theorem dX11_posts_7 : decode cX11_posts 7 = .ok (.invokevirtual 186, 3) := by decide +kernel
theorem dX11_posts_10 : decode cX11_posts 10 = .ok (.ifCond .eq 16, 3) := by decide +kernel
theorem dX11_posts_13 : decode cX11_posts 13 = .ok (.iload_n 2, 1) := by decide +kernel
theorem dX11_posts_14 : decode cX11_posts 14 = .ok (.iconst (-1), 1) := by decide +kernel
theorem dX11_posts_15 : decode cX11_posts 15 = .ok (.if_icmp .eq 14, 3) := by decide +kernel
theorem dX11_posts_18 : decode cX11_posts 18 = .ok (.aload_n 0, 1) := by decide +kernel
theorem dX11_posts_19 : decode cX11_posts 19 = .ok (.iload_n 2, 1) := by decide +kernel
theorem dX11_posts_20 : decode cX11_posts 20 = .ok (.invokevirtual 179, 3) := by decide +kernel
theorem dX11_posts_23 : decode cX11_posts 23 = .ok (.ifCond .ne 6, 3) := by decide +kernel
theorem dX11_posts_26 : decode cX11_posts 26 = .ok (.ldc 182, 2) := by decide +kernel
theorem dX11_posts_28 : decode cX11_posts 28 = .ok (.ireturn, 1) := by decide +kernel
theorem dX11_posts_29 : decode cX11_posts 29 = .ok (.aload_n 0, 1) := by decide +kernel
theorem dX11_posts_30 : decode cX11_posts 30 = .ok (.iload_n 1, 1) := by decide +kernel
theorem dX11_posts_31 : decode cX11_posts 31 = .ok (.invokevirtual 232, 3) := by decide +kernel
theorem dX11_posts_34 : decode cX11_posts 34 = .ok (.iload_n 2, 1) := by decide +kernel
theorem dX11_posts_35 : decode cX11_posts 35 = .ok (.iconst (-1), 1) := by decide +kernel
theorem dX11_posts_36 : decode cX11_posts 36 = .ok (.if_icmp .ne 10, 3) := by decide +kernel
theorem dX11_posts_39 : decode cX11_posts 39 = .ok (.aload_n 0, 1) := by decide +kernel
theorem dX11_posts_40 : decode cX11_posts 40 = .ok (.getfield 47, 3) := by decide +kernel
theorem dX11_posts_43 : decode cX11_posts 43 = .ok (.iconst 0, 1) := by decide +kernel
theorem dX11_posts_44 : decode cX11_posts 44 = .ok (.iaload, 1) := by decide +kernel
theorem dX11_posts_45 : decode cX11_posts 45 = .ok (.ireturn, 1) := by decide +kernel
theorem dX11_posts_46 : decode cX11_posts 46 = .ok (.iconst 0, 1) := by decide +kernel
theorem dX11_posts_47 : decode cX11_posts 47 = .ok (.istore_n 3, 1) := by decide +kernel
theorem dX11_posts_48 : decode cX11_posts 48 = .ok (.iconst (-1), 1) := by decide +kernel
theorem dX11_posts_49 : decode cX11_posts 49 = .ok (.istore 4, 2) := by decide +kernel
theorem dX11_posts_51 : decode cX11_posts 51 = .ok (.iconst 0, 1) := by decide +kernel
theorem dX11_posts_52 : decode cX11_posts 52 = .ok (.istore 5, 2) := by decide +kernel
theorem dX11_posts_54 : decode cX11_posts 54 = .ok (.iload 5, 2) := by decide +kernel
theorem dX11_posts_56 : decode cX11_posts 56 = .ok (.iload_n 2, 1) := by decide +kernel
theorem dX11_posts_57 : decode cX11_posts 57 = .ok (.if_icmp .gt 130, 3) := by decide +kernel
theorem dX11_posts_60 : decode cX11_posts 60 = .ok (.iconst (-1), 1) := by decide +kernel
theorem dX11_posts_61 : decode cX11_posts 61 = .ok (.istore 4, 2) := by decide +kernel
theorem dX11_posts_63 : decode cX11_posts 63 = .ok (.aload_n 0, 1) := by decide +kernel
theorem dX11_posts_64 : decode cX11_posts 64 = .ok (.getfield 16, 3) := by decide +kernel
theorem dX11_posts_67 : decode cX11_posts 67 = .ok (.iconst 2, 1) := by decide +kernel
theorem dX11_posts_68 : decode cX11_posts 68 = .ok (.iaload, 1) := by decide +kernel
theorem dX11_posts_69 : decode cX11_posts 69 = .ok (.iconst 1, 1) := by decide +kernel
theorem dX11_posts_70 : decode cX11_posts 70 = .ok (.isub, 1) := by decide +kernel
theorem dX11_posts_71 : decode cX11_posts 71 = .ok (.istore 6, 2) := by decide +kernel
theorem dX11_posts_73 : decode cX11_posts 73 = .ok (.iload 6, 2) := by decide +kernel
theorem dX11_posts_75 : decode cX11_posts 75 = .ok (.ifCond .lt 89, 3) := by decide +kernel
theorem dX11_posts_78 : decode cX11_posts 78 = .ok (.iload_n 3, 1) := by decide +kernel
theorem dX11_posts_79 : decode cX11_posts 79 = .ok (.iload 6, 2) := by decide +kernel
theorem dX11_posts_81 : decode cX11_posts 81 = .ok (.invokestatic 151, 3) := by decide +kernel
theorem dX11_posts_84 : decode cX11_posts 84 = .ok (.ifCond .ne 19, 3) := by decide +kernel
theorem dX11_posts_87 : decode cX11_posts 87 = .ok (.aload_n 0, 1) := by decide +kernel
theorem dX11_posts_88 : decode cX11_posts 88 = .ok (.iload_n 1, 1) := by decide +kernel
theorem dX11_posts_89 : decode cX11_posts 89 = .ok (.iload 5, 2) := by decide +kernel
theorem dX11_posts_91 : decode cX11_posts 91 = .ok (.iload 6, 2) := by decide +kernel
theorem dX11_posts_93 : decode cX11_posts 93 = .ok (.invokevirtual 229, 3) := by decide +kernel
theorem dX11_posts_96 : decode cX11_posts 96 = .ok (.ifCond .eq 7, 3) := by decide +kernel
theorem dX11_posts_99 : decode cX11_posts 99 = .ok (.iconst 1, 1) := by decide +kernel
theorem dX11_posts_100 : decode cX11_posts 100 = .ok (.goto 4, 3) := by decide +kernel
theorem dX11_posts_103 : decode cX11_posts 103 = .ok (.iconst 0, 1) := by decide +kernel
theorem dX11_posts_104 : decode cX11_posts 104 = .ok (.istore 7, 2) := by decide +kernel
theorem dX11_posts_106 : decode cX11_posts 106 = .ok (.iload 7, 2) := by decide +kernel
theorem dX11_posts_108 : decode cX11_posts 108 = .ok (.ifCond .eq 46, 3) := by decide +kernel
theorem dX11_posts_111 : decode cX11_posts 111 = .ok (.iconst 1, 1) := by decide +kernel
theorem dX11_posts_112 : decode cX11_posts 112 = .ok (.aload_n 0, 1) := by decide +kernel
theorem dX11_posts_113 : decode cX11_posts 113 = .ok (.getfield 47, 3) := by decide +kernel
theorem dX11_posts_116 : decode cX11_posts 116 = .ok (.sipush 512, 3) := by decide +kernel
theorem dX11_posts_119 : decode cX11_posts 119 = .ok (.iload 5, 2) := by decide +kernel
theorem dX11_posts_121 : decode cX11_posts 121 = .ok (.iconst 1, 1) := by decide +kernel
theorem dX11_posts_122 : decode cX11_posts 122 = .ok (.iadd, 1) := by decide +kernel
theorem dX11_posts_123 : decode cX11_posts 123 = .ok (.imul, 1) := by decide +kernel
theorem dX11_posts_124 : decode cX11_posts 124 = .ok (.iload_n 3, 1) := by decide +kernel
theorem dX11_posts_125 : decode cX11_posts 125 = .ok (.iconst 1, 1) := by decide +kernel
theorem dX11_posts_126 : decode cX11_posts 126 = .ok (.iload 6, 2) := by decide +kernel
theorem dX11_posts_128 : decode cX11_posts 128 = .ok (.ishl, 1) := by decide +kernel
theorem dX11_posts_129 : decode cX11_posts 129 = .ok (.ior, 1) := by decide +kernel
theorem dX11_posts_130 : decode cX11_posts 130 = .ok (.iadd, 1) := by decide +kernel
theorem dX11_posts_131 : decode cX11_posts 131 = .ok (.iaload, 1) := by decide +kernel
theorem dX11_posts_132 : decode cX11_posts 132 = .ok (.iadd, 1) := by decide +kernel
theorem dX11_posts_133 : decode cX11_posts 133 = .ok (.aload_n 0, 1) := by decide +kernel
theorem dX11_posts_134 : decode cX11_posts 134 = .ok (.getfield 47, 3) := by decide +kernel
theorem dX11_posts_137 : decode cX11_posts 137 = .ok (.sipush 512, 3) := by decide +kernel
theorem dX11_posts_140 : decode cX11_posts 140 = .ok (.iload 5, 2) := by decide +kernel
theorem dX11_posts_142 : decode cX11_posts 142 = .ok (.imul, 1) := by decide +kernel
theorem dX11_posts_143 : decode cX11_posts 143 = .ok (.iload_n 3, 1) := by decide +kernel
theorem dX11_posts_144 : decode cX11_posts 144 = .ok (.iadd, 1) := by decide +kernel
theorem dX11_posts_145 : decode cX11_posts 145 = .ok (.iaload, 1) := by decide +kernel
theorem dX11_posts_146 : decode cX11_posts 146 = .ok (.if_icmp .ne 8, 3) := by decide +kernel
theorem dX11_posts_149 : decode cX11_posts 149 = .ok (.iload 6, 2) := by decide +kernel
theorem dX11_posts_151 : decode cX11_posts 151 = .ok (.goto 5, 3) := by decide +kernel
theorem dX11_posts_154 : decode cX11_posts 154 = .ok (.iload 4, 2) := by decide +kernel
theorem dX11_posts_156 : decode cX11_posts 156 = .ok (.istore 4, 2) := by decide +kernel
theorem dX11_posts_158 : decode cX11_posts 158 = .ok (.iinc 6 (-1), 3) := by decide +kernel
theorem dX11_posts_161 : decode cX11_posts 161 = .ok (.goto (-88), 3) := by decide +kernel
theorem dX11_posts_164 : decode cX11_posts 164 = .ok (.iload_n 3, 1) := by decide +kernel
theorem dX11_posts_165 : decode cX11_posts 165 = .ok (.iload 4, 2) := by decide +kernel
theorem dX11_posts_167 : decode cX11_posts 167 = .ok (.iconst (-1), 1) := by decide +kernel
theorem dX11_posts_168 : decode cX11_posts 168 = .ok (.if_icmp .ne 7, 3) := by decide +kernel
theorem dX11_posts_171 : decode cX11_posts 171 = .ok (.iconst 0, 1) := by decide +kernel
theorem dX11_posts_172 : decode cX11_posts 172 = .ok (.goto 7, 3) := by decide +kernel
theorem dX11_posts_175 : decode cX11_posts 175 = .ok (.iconst 1, 1) := by decide +kernel
theorem dX11_posts_176 : decode cX11_posts 176 = .ok (.iload 4, 2) := by decide +kernel
theorem dX11_posts_178 : decode cX11_posts 178 = .ok (.ishl, 1) := by decide +kernel
theorem dX11_posts_179 : decode cX11_posts 179 = .ok (.ior, 1) := by decide +kernel
theorem dX11_posts_180 : decode cX11_posts 180 = .ok (.istore_n 3, 1) := by decide +kernel
theorem dX11_posts_181 : decode cX11_posts 181 = .ok (.iinc 5 1, 3) := by decide +kernel
theorem dX11_posts_184 : decode cX11_posts 184 = .ok (.goto (-130), 3) := by decide +kernel
theorem dX11_posts_187 : decode cX11_posts 187 = .ok (.iload 4, 2) := by decide +kernel
theorem dX11_posts_189 : decode cX11_posts 189 = .ok (.ireturn, 1) := by decide +kernel
theorem dX11_tires_0 : decode cX11_tires 0 = .ok (.aload_n 0, 1) := by decide +kernel
theorem dX11_tires_1 : decode cX11_tires 1 = .ok (.iconst 0, 1) := by decide +kernel
theorem dX11_tires_2 : decode cX11_tires 2 = .ok (.putfield 63, 3) := by decide +kernel
theorem dX11_tires_5 : decode cX11_tires 5 = .ok (.aload_n 0, 1) := by decide +kernel
theorem dX11_tires_6 : decode cX11_tires 6 = .ok (.iload_n 1, 1) := by decide +kernel
theorem dX11_tires_7 : decode cX11_tires 7 = .ok (.invokevirtual 186, 3) := by decide +kernel
theorem dX11_tires_10 : decode cX11_tires 10 = .ok (.ifCond .eq 11, 3) := by decide +kernel
theorem dX11_tires_13 : decode cX11_tires 13 = .ok (.aload_n 0, 1) := by decide +kernel
theorem dX11_tires_14 : decode cX11_tires 14 = .ok (.iload_n 2, 1) := by decide +kernel
theorem dX11_tires_15 : decode cX11_tires 15 = .ok (.invokevirtual 179, 3) := by decide +kernel
theorem dX11_tires_18 : decode cX11_tires 18 = .ok (.ifCond .ne 6, 3) := by decide +kernel
theorem dX11_tires_21 : decode cX11_tires 21 = .ok (.ldc 182, 2) := by decide +kernel
theorem dX11_tires_23 : decode cX11_tires 23 = .ok (.ireturn, 1) := by decide +kernel
theorem dX11_tires_24 : decode cX11_tires 24 = .ok (.aload_n 0, 1) := by decide +kernel
theorem dX11_tires_25 : decode cX11_tires 25 = .ok (.iload_n 2, 1) := by decide +kernel
theorem dX11_tires_26 : decode cX11_tires 26 = .ok (.invokevirtual 138, 3) := by decide +kernel
theorem dX11_tires_29 : decode cX11_tires 29 = .ok (.istore_n 3, 1) := by decide +kernel
theorem dX11_tires_30 : decode cX11_tires 30 = .ok (.iload_n 3, 1) := by decide +kernel
theorem dX11_tires_31 : decode cX11_tires 31 = .ok (.iconst (-1), 1) := by decide +kernel
theorem dX11_tires_32 : decode cX11_tires 32 = .ok (.if_icmp .ne 6, 3) := by decide +kernel
theorem dX11_tires_35 : decode cX11_tires 35 = .ok (.ldc 199, 2) := by decide +kernel
theorem dX11_tires_37 : decode cX11_tires 37 = .ok (.ireturn, 1) := by decide +kernel
theorem dX11_tires_38 : decode cX11_tires 38 = .ok (.iconst 0, 1) := by decide +kernel
theorem dX11_tires_39 : decode cX11_tires 39 = .ok (.istore 4, 2) := by decide +kernel
theorem dX11_tires_41 : decode cX11_tires 41 = .ok (.aload_n 0, 1) := by decide +kernel
theorem dX11_tires_42 : decode cX11_tires 42 = .ok (.getfield 19, 3) := by decide +kernel
theorem dX11_tires_45 : decode cX11_tires 45 = .ok (.bipush 33, 2) := by decide +kernel
theorem dX11_tires_47 : decode cX11_tires 47 = .ok (.iload_n 3, 1) := by decide +kernel
theorem dX11_tires_48 : decode cX11_tires 48 = .ok (.iadd, 1) := by decide +kernel
theorem dX11_tires_49 : decode cX11_tires 49 = .ok (.iaload, 1) := by decide +kernel
theorem dX11_tires_50 : decode cX11_tires 50 = .ok (.iload 4, 2) := by decide +kernel
theorem dX11_tires_52 : decode cX11_tires 52 = .ok (.iadd, 1) := by decide +kernel
theorem dX11_tires_53 : decode cX11_tires 53 = .ok (.bipush 99, 2) := by decide +kernel
theorem dX11_tires_55 : decode cX11_tires 55 = .ok (.if_icmp .gt 38, 3) := by decide +kernel
theorem dX11_tires_58 : decode cX11_tires 58 = .ok (.aload_n 0, 1) := by decide +kernel
theorem dX11_tires_59 : decode cX11_tires 59 = .ok (.iload_n 3, 1) := by decide +kernel
theorem dX11_tires_60 : decode cX11_tires 60 = .ok (.aload_n 0, 1) := by decide +kernel
theorem dX11_tires_61 : decode cX11_tires 61 = .ok (.getfield 19, 3) := by decide +kernel
theorem dX11_tires_64 : decode cX11_tires 64 = .ok (.bipush 33, 2) := by decide +kernel
theorem dX11_tires_66 : decode cX11_tires 66 = .ok (.iload_n 3, 1) := by decide +kernel
theorem dX11_tires_67 : decode cX11_tires 67 = .ok (.iadd, 1) := by decide +kernel
theorem dX11_tires_68 : decode cX11_tires 68 = .ok (.iaload, 1) := by decide +kernel
theorem dX11_tires_69 : decode cX11_tires 69 = .ok (.iload 4, 2) := by decide +kernel
theorem dX11_tires_71 : decode cX11_tires 71 = .ok (.iadd, 1) := by decide +kernel
theorem dX11_tires_72 : decode cX11_tires 72 = .ok (.invokevirtual 135, 3) := by decide +kernel
theorem dX11_tires_75 : decode cX11_tires 75 = .ok (.aload_n 0, 1) := by decide +kernel
theorem dX11_tires_76 : decode cX11_tires 76 = .ok (.iload_n 1, 1) := by decide +kernel
theorem dX11_tires_77 : decode cX11_tires 77 = .ok (.iload_n 2, 1) := by decide +kernel
theorem dX11_tires_78 : decode cX11_tires 78 = .ok (.invokevirtual 144, 3) := by decide +kernel
theorem dX11_tires_81 : decode cX11_tires 81 = .ok (.if_icmp .le 6, 3) := by decide +kernel
theorem dX11_tires_84 : decode cX11_tires 84 = .ok (.iload 4, 2) := by decide +kernel
theorem dX11_tires_86 : decode cX11_tires 86 = .ok (.ireturn, 1) := by decide +kernel
theorem dX11_tires_87 : decode cX11_tires 87 = .ok (.iinc 4 1, 3) := by decide +kernel
theorem dX11_tires_90 : decode cX11_tires 90 = .ok (.goto (-49), 3) := by decide +kernel
theorem dX11_tires_93 : decode cX11_tires 93 = .ok (.iconst (-1), 1) := by decide +kernel
theorem dX11_tires_94 : decode cX11_tires 94 = .ok (.ireturn, 1) := by decide +kernel
theorem dX11_parted_0 : decode cX11_parted 0 = .ok (.aload_n 0, 1) := by decide +kernel
theorem dX11_parted_1 : decode cX11_parted 1 = .ok (.iconst 0, 1) := by decide +kernel
theorem dX11_parted_2 : decode cX11_parted 2 = .ok (.putfield 63, 3) := by decide +kernel
theorem dX11_parted_5 : decode cX11_parted 5 = .ok (.aload_n 0, 1) := by decide +kernel
theorem dX11_parted_6 : decode cX11_parted 6 = .ok (.iload_n 1, 1) := by decide +kernel
theorem dX11_parted_7 : decode cX11_parted 7 = .ok (.invokevirtual 223, 3) := by decide +kernel
theorem dX11_parted_10 : decode cX11_parted 10 = .ok (.ifCond .eq 16, 3) := by decide +kernel
theorem dX11_parted_13 : decode cX11_parted 13 = .ok (.aload_n 0, 1) := by decide +kernel
theorem dX11_parted_14 : decode cX11_parted 14 = .ok (.iload_n 2, 1) := by decide +kernel
theorem dX11_parted_15 : decode cX11_parted 15 = .ok (.invokevirtual 223, 3) := by decide +kernel
theorem dX11_parted_18 : decode cX11_parted 18 = .ok (.ifCond .eq 8, 3) := by decide +kernel
theorem dX11_parted_21 : decode cX11_parted 21 = .ok (.iload_n 1, 1) := by decide +kernel
theorem dX11_parted_22 : decode cX11_parted 22 = .ok (.iload_n 2, 1) := by decide +kernel
theorem dX11_parted_23 : decode cX11_parted 23 = .ok (.if_icmp .ne 6, 3) := by decide +kernel
theorem dX11_parted_26 : decode cX11_parted 26 = .ok (.ldc 182, 2) := by decide +kernel
theorem dX11_parted_28 : decode cX11_parted 28 = .ok (.ireturn, 1) := by decide +kernel
theorem dX11_parted_29 : decode cX11_parted 29 = .ok (.aload_n 0, 1) := by decide +kernel
theorem dX11_parted_30 : decode cX11_parted 30 = .ok (.invokevirtual 157, 3) := by decide +kernel
theorem dX11_parted_33 : decode cX11_parted 33 = .ok (.istore_n 3, 1) := by decide +kernel
theorem dX11_parted_34 : decode cX11_parted 34 = .ok (.aload_n 0, 1) := by decide +kernel
theorem dX11_parted_35 : decode cX11_parted 35 = .ok (.invokevirtual 157, 3) := by decide +kernel
theorem dX11_parted_38 : decode cX11_parted 38 = .ok (.istore 4, 2) := by decide +kernel
theorem dX11_parted_40 : decode cX11_parted 40 = .ok (.iload 4, 2) := by decide +kernel
theorem dX11_parted_42 : decode cX11_parted 42 = .ok (.ifCond .lt 46, 3) := by decide +kernel
theorem dX11_parted_45 : decode cX11_parted 45 = .ok (.iload 4, 2) := by decide +kernel
theorem dX11_parted_47 : decode cX11_parted 47 = .ok (.invokestatic 235, 3) := by decide +kernel
theorem dX11_parted_50 : decode cX11_parted 50 = .ok (.iload_n 3, 1) := by decide +kernel
theorem dX11_parted_51 : decode cX11_parted 51 = .ok (.invokestatic 235, 3) := by decide +kernel
theorem dX11_parted_54 : decode cX11_parted 54 = .ok (.if_icmp .gt 26, 3) := by decide +kernel
theorem dX11_parted_57 : decode cX11_parted 57 = .ok (.aload_n 0, 1) := by decide +kernel
theorem dX11_parted_58 : decode cX11_parted 58 = .ok (.iload_n 1, 1) := by decide +kernel
theorem dX11_parted_59 : decode cX11_parted 59 = .ok (.iload_n 2, 1) := by decide +kernel
theorem dX11_parted_60 : decode cX11_parted 60 = .ok (.aload_n 0, 1) := by decide +kernel
theorem dX11_parted_61 : decode cX11_parted 61 = .ok (.invokevirtual 157, 3) := by decide +kernel
theorem dX11_parted_64 : decode cX11_parted 64 = .ok (.iload 4, 2) := by decide +kernel
theorem dX11_parted_66 : decode cX11_parted 66 = .ok (.iconst (-1), 1) := by decide +kernel
theorem dX11_parted_67 : decode cX11_parted 67 = .ok (.ixor, 1) := by decide +kernel
theorem dX11_parted_68 : decode cX11_parted 68 = .ok (.iand, 1) := by decide +kernel
theorem dX11_parted_69 : decode cX11_parted 69 = .ok (.invokevirtual 161, 3) := by decide +kernel
theorem dX11_parted_72 : decode cX11_parted 72 = .ok (.ifCond .ne 8, 3) := by decide +kernel
theorem dX11_parted_75 : decode cX11_parted 75 = .ok (.iload 4, 2) := by decide +kernel
theorem dX11_parted_77 : decode cX11_parted 77 = .ok (.goto 4, 3) := by decide +kernel
theorem dX11_parted_80 : decode cX11_parted 80 = .ok (.iload_n 3, 1) := by decide +kernel
theorem dX11_parted_81 : decode cX11_parted 81 = .ok (.istore_n 3, 1) := by decide +kernel
theorem dX11_parted_82 : decode cX11_parted 82 = .ok (.iinc 4 (-1), 3) := by decide +kernel
theorem dX11_parted_85 : decode cX11_parted 85 = .ok (.goto (-45), 3) := by decide +kernel
theorem dX11_parted_88 : decode cX11_parted 88 = .ok (.iload_n 3, 1) := by decide +kernel
theorem dX11_parted_89 : decode cX11_parted 89 = .ok (.ireturn, 1) := by decide +kernel
theorem dX11_chanceOf_0 : decode cX11_chanceOf 0 = .ok (.ldc2_w 238, 3) := by decide +kernel
theorem dX11_chanceOf_3 : decode cX11_chanceOf 3 = .ok (.lstore_n 2, 1) := by decide +kernel
theorem dX11_chanceOf_4 : decode cX11_chanceOf 4 = .ok (.iconst 0, 1) := by decide +kernel
theorem dX11_chanceOf_5 : decode cX11_chanceOf 5 = .ok (.istore 4, 2) := by decide +kernel
theorem dX11_chanceOf_7 : decode cX11_chanceOf 7 = .ok (.iload 4, 2) := by decide +kernel
theorem dX11_chanceOf_9 : decode cX11_chanceOf 9 = .ok (.iload_n 0, 1) := by decide +kernel
theorem dX11_chanceOf_10 : decode cX11_chanceOf 10 = .ok (.if_icmp .ge 18, 3) := by decide +kernel
theorem dX11_chanceOf_13 : decode cX11_chanceOf 13 = .ok (.lload_n 2, 1) := by decide +kernel
theorem dX11_chanceOf_14 : decode cX11_chanceOf 14 = .ok (.iload_n 1, 1) := by decide +kernel
theorem dX11_chanceOf_15 : decode cX11_chanceOf 15 = .ok (.i2l, 1) := by decide +kernel
theorem dX11_chanceOf_16 : decode cX11_chanceOf 16 = .ok (.lmul, 1) := by decide +kernel
theorem dX11_chanceOf_17 : decode cX11_chanceOf 17 = .ok (.ldc2_w 227, 3) := by decide +kernel
theorem dX11_chanceOf_20 : decode cX11_chanceOf 20 = .ok (.ldiv, 1) := by decide +kernel
theorem dX11_chanceOf_21 : decode cX11_chanceOf 21 = .ok (.lstore_n 2, 1) := by decide +kernel
theorem dX11_chanceOf_22 : decode cX11_chanceOf 22 = .ok (.iinc 4 1, 3) := by decide +kernel
theorem dX11_chanceOf_25 : decode cX11_chanceOf 25 = .ok (.goto (-18), 3) := by decide +kernel
theorem dX11_chanceOf_28 : decode cX11_chanceOf 28 = .ok (.lload_n 2, 1) := by decide +kernel
theorem dX11_chanceOf_29 : decode cX11_chanceOf 29 = .ok (.lreturn, 1) := by decide +kernel
theorem dX11_pays_0 : decode cX11_pays 0 = .ok (.aload_n 0, 1) := by decide +kernel
theorem dX11_pays_1 : decode cX11_pays 1 = .ok (.iconst 0, 1) := by decide +kernel
theorem dX11_pays_2 : decode cX11_pays 2 = .ok (.putfield 63, 3) := by decide +kernel
theorem dX11_pays_5 : decode cX11_pays 5 = .ok (.iload_n 1, 1) := by decide +kernel
theorem dX11_pays_6 : decode cX11_pays 6 = .ok (.iconst 1, 1) := by decide +kernel
theorem dX11_pays_7 : decode cX11_pays 7 = .ok (.bipush 99, 2) := by decide +kernel
theorem dX11_pays_9 : decode cX11_pays 9 = .ok (.invokestatic 66, 3) := by decide +kernel
theorem dX11_pays_12 : decode cX11_pays 12 = .ok (.ifCond .eq 13, 3) := by decide +kernel
theorem dX11_pays_15 : decode cX11_pays 15 = .ok (.iload_n 2, 1) := by decide +kernel
theorem dX11_pays_16 : decode cX11_pays 16 = .ok (.iconst 0, 1) := by decide +kernel
theorem dX11_pays_17 : decode cX11_pays 17 = .ok (.bipush 100, 2) := by decide +kernel
theorem dX11_pays_19 : decode cX11_pays 19 = .ok (.invokestatic 66, 3) := by decide +kernel
theorem dX11_pays_22 : decode cX11_pays 22 = .ok (.ifCond .ne 6, 3) := by decide +kernel
theorem dX11_pays_25 : decode cX11_pays 25 = .ok (.ldc 70, 2) := by decide +kernel
theorem dX11_pays_27 : decode cX11_pays 27 = .ok (.ireturn, 1) := by decide +kernel
theorem dX11_pays_28 : decode cX11_pays 28 = .ok (.iconst 0, 1) := by decide +kernel
theorem dX11_pays_29 : decode cX11_pays 29 = .ok (.istore_n 3, 1) := by decide +kernel
theorem dX11_pays_30 : decode cX11_pays 30 = .ok (.iconst 1, 1) := by decide +kernel
theorem dX11_pays_31 : decode cX11_pays 31 = .ok (.istore 4, 2) := by decide +kernel
theorem dX11_pays_33 : decode cX11_pays 33 = .ok (.iload 4, 2) := by decide +kernel
theorem dX11_pays_35 : decode cX11_pays 35 = .ok (.bipush 30, 2) := by decide +kernel
theorem dX11_pays_37 : decode cX11_pays 37 = .ok (.if_icmp .gt 44, 3) := by decide +kernel
theorem dX11_pays_40 : decode cX11_pays 40 = .ok (.iload 4, 2) := by decide +kernel
theorem dX11_pays_42 : decode cX11_pays 42 = .ok (.i2l, 1) := by decide +kernel
theorem dX11_pays_43 : decode cX11_pays 43 = .ok (.iload_n 1, 1) := by decide +kernel
theorem dX11_pays_44 : decode cX11_pays 44 = .ok (.i2l, 1) := by decide +kernel
theorem dX11_pays_45 : decode cX11_pays 45 = .ok (.lmul, 1) := by decide +kernel
theorem dX11_pays_46 : decode cX11_pays 46 = .ok (.iload 4, 2) := by decide +kernel
theorem dX11_pays_48 : decode cX11_pays 48 = .ok (.iload_n 2, 1) := by decide +kernel
theorem dX11_pays_49 : decode cX11_pays 49 = .ok (.invokestatic 240, 3) := by decide +kernel
theorem dX11_pays_52 : decode cX11_pays 52 = .ok (.lmul, 1) := by decide +kernel
theorem dX11_pays_53 : decode cX11_pays 53 = .ok (.iload_n 3, 1) := by decide +kernel
theorem dX11_pays_54 : decode cX11_pays 54 = .ok (.i2l, 1) := by decide +kernel
theorem dX11_pays_55 : decode cX11_pays 55 = .ok (.iload_n 1, 1) := by decide +kernel
theorem dX11_pays_56 : decode cX11_pays 56 = .ok (.i2l, 1) := by decide +kernel
theorem dX11_pays_57 : decode cX11_pays 57 = .ok (.lmul, 1) := by decide +kernel
theorem dX11_pays_58 : decode cX11_pays 58 = .ok (.iload_n 3, 1) := by decide +kernel
theorem dX11_pays_59 : decode cX11_pays 59 = .ok (.iload_n 2, 1) := by decide +kernel
theorem dX11_pays_60 : decode cX11_pays 60 = .ok (.invokestatic 240, 3) := by decide +kernel
theorem dX11_pays_63 : decode cX11_pays 63 = .ok (.lmul, 1) := by decide +kernel
theorem dX11_pays_64 : decode cX11_pays 64 = .ok (.lcmp, 1) := by decide +kernel
theorem dX11_pays_65 : decode cX11_pays 65 = .ok (.ifCond .le 8, 3) := by decide +kernel
theorem dX11_pays_68 : decode cX11_pays 68 = .ok (.iload 4, 2) := by decide +kernel
theorem dX11_pays_70 : decode cX11_pays 70 = .ok (.goto 4, 3) := by decide +kernel
theorem dX11_pays_73 : decode cX11_pays 73 = .ok (.iload_n 3, 1) := by decide +kernel
theorem dX11_pays_74 : decode cX11_pays 74 = .ok (.istore_n 3, 1) := by decide +kernel
theorem dX11_pays_75 : decode cX11_pays 75 = .ok (.iinc 4 1, 3) := by decide +kernel
theorem dX11_pays_78 : decode cX11_pays 78 = .ok (.goto (-45), 3) := by decide +kernel
theorem dX11_pays_81 : decode cX11_pays 81 = .ok (.iload_n 3, 1) := by decide +kernel
theorem dX11_pays_82 : decode cX11_pays 82 = .ok (.ireturn, 1) := by decide +kernel
theorem dX11_exact_0 : decode cX11_exact 0 = .ok (.aload_n 0, 1) := by decide +kernel
theorem dX11_exact_1 : decode cX11_exact 1 = .ok (.iconst 0, 1) := by decide +kernel
theorem dX11_exact_2 : decode cX11_exact 2 = .ok (.putfield 63, 3) := by decide +kernel
theorem dX11_exact_5 : decode cX11_exact 5 = .ok (.iload_n 1, 1) := by decide +kernel
theorem dX11_exact_6 : decode cX11_exact 6 = .ok (.iconst 0, 1) := by decide +kernel
theorem dX11_exact_7 : decode cX11_exact 7 = .ok (.bipush 60, 2) := by decide +kernel
theorem dX11_exact_9 : decode cX11_exact 9 = .ok (.invokestatic 66, 3) := by decide +kernel
theorem dX11_exact_12 : decode cX11_exact 12 = .ok (.ifCond .eq 13, 3) := by decide +kernel
theorem dX11_exact_15 : decode cX11_exact 15 = .ok (.iload_n 2, 1) := by decide +kernel
theorem dX11_exact_16 : decode cX11_exact 16 = .ok (.iconst 0, 1) := by decide +kernel
theorem dX11_exact_17 : decode cX11_exact 17 = .ok (.bipush 100, 2) := by decide +kernel
theorem dX11_exact_19 : decode cX11_exact 19 = .ok (.invokestatic 66, 3) := by decide +kernel
theorem dX11_exact_22 : decode cX11_exact 22 = .ok (.ifCond .ne 6, 3) := by decide +kernel
theorem dX11_exact_25 : decode cX11_exact 25 = .ok (.ldc 70, 2) := by decide +kernel
theorem dX11_exact_27 : decode cX11_exact 27 = .ok (.ireturn, 1) := by decide +kernel
theorem dX11_exact_28 : decode cX11_exact 28 = .ok (.iload_n 1, 1) := by decide +kernel
theorem dX11_exact_29 : decode cX11_exact 29 = .ok (.iload_n 2, 1) := by decide +kernel
theorem dX11_exact_30 : decode cX11_exact 30 = .ok (.invokestatic 240, 3) := by decide +kernel
theorem dX11_exact_33 : decode cX11_exact 33 = .ok (.l2i, 1) := by decide +kernel
theorem dX11_exact_34 : decode cX11_exact 34 = .ok (.ireturn, 1) := by decide +kernel
theorem dX11_see_0 : decode cX11_see 0 = .ok (.aload_n 0, 1) := by decide +kernel
theorem dX11_see_1 : decode cX11_see 1 = .ok (.iconst 0, 1) := by decide +kernel
theorem dX11_see_2 : decode cX11_see 2 = .ok (.putfield 63, 3) := by decide +kernel
theorem dX11_see_5 : decode cX11_see 5 = .ok (.iload_n 1, 1) := by decide +kernel
theorem dX11_see_6 : decode cX11_see 6 = .ok (.iconst 0, 1) := by decide +kernel
theorem dX11_see_7 : decode cX11_see 7 = .ok (.bipush 40, 2) := by decide +kernel
theorem dX11_see_9 : decode cX11_see 9 = .ok (.invokestatic 66, 3) := by decide +kernel
theorem dX11_see_12 : decode cX11_see 12 = .ok (.ifCond .ne 6, 3) := by decide +kernel
theorem dX11_see_15 : decode cX11_see 15 = .ok (.ldc 70, 2) := by decide +kernel
theorem dX11_see_17 : decode cX11_see 17 = .ok (.ireturn, 1) := by decide +kernel
theorem dX11_see_18 : decode cX11_see 18 = .ok (.aload_n 0, 1) := by decide +kernel
theorem dX11_see_19 : decode cX11_see 19 = .ok (.getfield 126, 3) := by decide +kernel
theorem dX11_see_22 : decode cX11_see 22 = .ok (.bipush 6, 2) := by decide +kernel
theorem dX11_see_24 : decode cX11_see 24 = .ok (.if_icmp .ne 6, 3) := by decide +kernel
theorem dX11_see_27 : decode cX11_see 27 = .ok (.ldc 74, 2) := by decide +kernel
theorem dX11_see_29 : decode cX11_see 29 = .ok (.ireturn, 1) := by decide +kernel
theorem dX11_see_30 : decode cX11_see 30 = .ok (.aload_n 0, 1) := by decide +kernel
theorem dX11_see_31 : decode cX11_see 31 = .ok (.getfield 32, 3) := by decide +kernel
theorem dX11_see_34 : decode cX11_see 34 = .ok (.aload_n 0, 1) := by decide +kernel
theorem dX11_see_35 : decode cX11_see 35 = .ok (.getfield 126, 3) := by decide +kernel
theorem dX11_see_38 : decode cX11_see 38 = .ok (.iload_n 1, 1) := by decide +kernel
theorem dX11_see_39 : decode cX11_see 39 = .ok (.iastore, 1) := by decide +kernel
theorem dX11_see_40 : decode cX11_see 40 = .ok (.aload_n 0, 1) := by decide +kernel
theorem dX11_see_41 : decode cX11_see 41 = .ok (.getfield 35, 3) := by decide +kernel
theorem dX11_see_44 : decode cX11_see 44 = .ok (.aload_n 0, 1) := by decide +kernel
theorem dX11_see_45 : decode cX11_see 45 = .ok (.getfield 126, 3) := by decide +kernel
theorem dX11_see_48 : decode cX11_see 48 = .ok (.iload_n 2, 1) := by decide +kernel
theorem dX11_see_49 : decode cX11_see 49 = .ok (.bastore, 1) := by decide +kernel
theorem dX11_see_50 : decode cX11_see 50 = .ok (.aload_n 0, 1) := by decide +kernel
theorem dX11_see_51 : decode cX11_see 51 = .ok (.dup, 1) := by decide +kernel
theorem dX11_see_52 : decode cX11_see 52 = .ok (.getfield 126, 3) := by decide +kernel
theorem dX11_see_55 : decode cX11_see 55 = .ok (.iconst 1, 1) := by decide +kernel
theorem dX11_see_56 : decode cX11_see 56 = .ok (.iadd, 1) := by decide +kernel
theorem dX11_see_57 : decode cX11_see 57 = .ok (.putfield 126, 3) := by decide +kernel
theorem dX11_see_60 : decode cX11_see 60 = .ok (.aload_n 0, 1) := by decide +kernel
theorem dX11_see_61 : decode cX11_see 61 = .ok (.getfield 126, 3) := by decide +kernel
theorem dX11_see_64 : decode cX11_see 64 = .ok (.ireturn, 1) := by decide +kernel
theorem dX11_isAsSeen_0 : decode cX11_isAsSeen 0 = .ok (.iconst 1, 1) := by decide +kernel
theorem dX11_isAsSeen_1 : decode cX11_isAsSeen 1 = .ok (.istore_n 2, 1) := by decide +kernel
theorem dX11_isAsSeen_2 : decode cX11_isAsSeen 2 = .ok (.iconst 0, 1) := by decide +kernel
theorem dX11_isAsSeen_3 : decode cX11_isAsSeen 3 = .ok (.istore_n 3, 1) := by decide +kernel
theorem dX11_isAsSeen_4 : decode cX11_isAsSeen 4 = .ok (.iload_n 3, 1) := by decide +kernel
theorem dX11_isAsSeen_5 : decode cX11_isAsSeen 5 = .ok (.aload_n 0, 1) := by decide +kernel
theorem dX11_isAsSeen_6 : decode cX11_isAsSeen 6 = .ok (.getfield 126, 3) := by decide +kernel
theorem dX11_isAsSeen_9 : decode cX11_isAsSeen 9 = .ok (.if_icmp .ge 43, 3) := by decide +kernel
theorem dX11_isAsSeen_12 : decode cX11_isAsSeen 12 = .ok (.iload_n 2, 1) := by decide +kernel
theorem dX11_isAsSeen_13 : decode cX11_isAsSeen 13 = .ok (.ifCond .eq 31, 3) := by decide +kernel
theorem dX11_isAsSeen_16 : decode cX11_isAsSeen 16 = .ok (.iload_n 1, 1) := by decide +kernel
theorem dX11_isAsSeen_17 : decode cX11_isAsSeen 17 = .ok (.aload_n 0, 1) := by decide +kernel
theorem dX11_isAsSeen_18 : decode cX11_isAsSeen 18 = .ok (.getfield 32, 3) := by decide +kernel
theorem dX11_isAsSeen_21 : decode cX11_isAsSeen 21 = .ok (.iload_n 3, 1) := by decide +kernel
theorem dX11_isAsSeen_22 : decode cX11_isAsSeen 22 = .ok (.iaload, 1) := by decide +kernel
theorem dX11_isAsSeen_23 : decode cX11_isAsSeen 23 = .ok (.if_icmp .gt 7, 3) := by decide +kernel
theorem dX11_isAsSeen_26 : decode cX11_isAsSeen 26 = .ok (.iconst 1, 1) := by decide +kernel
theorem dX11_isAsSeen_27 : decode cX11_isAsSeen 27 = .ok (.goto 4, 3) := by decide +kernel
theorem dX11_isAsSeen_30 : decode cX11_isAsSeen 30 = .ok (.iconst 0, 1) := by decide +kernel
theorem dX11_isAsSeen_31 : decode cX11_isAsSeen 31 = .ok (.aload_n 0, 1) := by decide +kernel
theorem dX11_isAsSeen_32 : decode cX11_isAsSeen 32 = .ok (.getfield 35, 3) := by decide +kernel
theorem dX11_isAsSeen_35 : decode cX11_isAsSeen 35 = .ok (.iload_n 3, 1) := by decide +kernel
theorem dX11_isAsSeen_36 : decode cX11_isAsSeen 36 = .ok (.baload, 1) := by decide +kernel
theorem dX11_isAsSeen_37 : decode cX11_isAsSeen 37 = .ok (.if_icmp .ne 7, 3) := by decide +kernel
theorem dX11_isAsSeen_40 : decode cX11_isAsSeen 40 = .ok (.iconst 1, 1) := by decide +kernel
theorem dX11_isAsSeen_41 : decode cX11_isAsSeen 41 = .ok (.goto 4, 3) := by decide +kernel
theorem dX11_isAsSeen_44 : decode cX11_isAsSeen 44 = .ok (.iconst 0, 1) := by decide +kernel
theorem dX11_isAsSeen_45 : decode cX11_isAsSeen 45 = .ok (.istore_n 2, 1) := by decide +kernel
theorem dX11_isAsSeen_46 : decode cX11_isAsSeen 46 = .ok (.iinc 3 1, 3) := by decide +kernel
theorem dX11_isAsSeen_49 : decode cX11_isAsSeen 49 = .ok (.goto (-45), 3) := by decide +kernel
theorem dX11_isAsSeen_52 : decode cX11_isAsSeen 52 = .ok (.iload_n 2, 1) := by decide +kernel
theorem dX11_isAsSeen_53 : decode cX11_isAsSeen 53 = .ok (.ireturn, 1) := by decide +kernel
theorem dX11_quick_0 : decode cX11_quick 0 = .ok (.aload_n 0, 1) := by decide +kernel
theorem dX11_quick_1 : decode cX11_quick 1 = .ok (.iconst 0, 1) := by decide +kernel
theorem dX11_quick_2 : decode cX11_quick 2 = .ok (.putfield 63, 3) := by decide +kernel
theorem dX11_quick_5 : decode cX11_quick 5 = .ok (.iload_n 1, 1) := by decide +kernel
theorem dX11_quick_6 : decode cX11_quick 6 = .ok (.iconst 0, 1) := by decide +kernel
theorem dX11_quick_7 : decode cX11_quick 7 = .ok (.iconst 2, 1) := by decide +kernel
theorem dX11_quick_8 : decode cX11_quick 8 = .ok (.invokestatic 66, 3) := by decide +kernel
theorem dX11_quick_11 : decode cX11_quick 11 = .ok (.ifCond .ne 6, 3) := by decide +kernel
theorem dX11_quick_14 : decode cX11_quick 14 = .ok (.ldc 70, 2) := by decide +kernel
theorem dX11_quick_16 : decode cX11_quick 16 = .ok (.ireturn, 1) := by decide +kernel
theorem dX11_quick_17 : decode cX11_quick 17 = .ok (.iconst 0, 1) := by decide +kernel
theorem dX11_quick_18 : decode cX11_quick 18 = .ok (.istore_n 2, 1) := by decide +kernel
theorem dX11_quick_19 : decode cX11_quick 19 = .ok (.iconst (-1), 1) := by decide +kernel
theorem dX11_quick_20 : decode cX11_quick 20 = .ok (.istore_n 3, 1) := by decide +kernel
theorem dX11_quick_21 : decode cX11_quick 21 = .ok (.iconst (-1), 1) := by decide +kernel
theorem dX11_quick_22 : decode cX11_quick 22 = .ok (.istore 4, 2) := by decide +kernel
theorem dX11_quick_24 : decode cX11_quick 24 = .ok (.iconst 1, 1) := by decide +kernel
theorem dX11_quick_25 : decode cX11_quick 25 = .ok (.istore 5, 2) := by decide +kernel
theorem dX11_quick_27 : decode cX11_quick 27 = .ok (.iload 5, 2) := by decide +kernel
theorem dX11_quick_29 : decode cX11_quick 29 = .ok (.bipush 40, 2) := by decide +kernel
theorem dX11_quick_31 : decode cX11_quick 31 = .ok (.if_icmp .gt 36, 3) := by decide +kernel
theorem dX11_quick_34 : decode cX11_quick 34 = .ok (.aload_n 0, 1) := by decide +kernel
theorem dX11_quick_35 : decode cX11_quick 35 = .ok (.iload 5, 2) := by decide +kernel
theorem dX11_quick_37 : decode cX11_quick 37 = .ok (.invokevirtual 244, 3) := by decide +kernel
theorem dX11_quick_40 : decode cX11_quick 40 = .ok (.ifCond .eq 21, 3) := by decide +kernel
theorem dX11_quick_43 : decode cX11_quick 43 = .ok (.iload_n 2, 1) := by decide +kernel
theorem dX11_quick_44 : decode cX11_quick 44 = .ok (.ifCond .ne 8, 3) := by decide +kernel
theorem dX11_quick_47 : decode cX11_quick 47 = .ok (.iload 5, 2) := by decide +kernel
theorem dX11_quick_49 : decode cX11_quick 49 = .ok (.goto 4, 3) := by decide +kernel
theorem dX11_quick_52 : decode cX11_quick 52 = .ok (.iload_n 3, 1) := by decide +kernel
theorem dX11_quick_53 : decode cX11_quick 53 = .ok (.istore_n 3, 1) := by decide +kernel
theorem dX11_quick_54 : decode cX11_quick 54 = .ok (.iload 5, 2) := by decide +kernel
theorem dX11_quick_56 : decode cX11_quick 56 = .ok (.istore 4, 2) := by decide +kernel
theorem dX11_quick_58 : decode cX11_quick 58 = .ok (.iinc 2 1, 3) := by decide +kernel
theorem dX11_quick_61 : decode cX11_quick 61 = .ok (.iinc 5 1, 3) := by decide +kernel
theorem dX11_quick_64 : decode cX11_quick 64 = .ok (.goto (-37), 3) := by decide +kernel
theorem dX11_quick_67 : decode cX11_quick 67 = .ok (.iload_n 1, 1) := by decide +kernel
theorem dX11_quick_68 : decode cX11_quick 68 = .ok (.ifCond .ne 7, 3) := by decide +kernel
theorem dX11_quick_71 : decode cX11_quick 71 = .ok (.iload_n 2, 1) := by decide +kernel
theorem dX11_quick_72 : decode cX11_quick 72 = .ok (.goto 14, 3) := by decide +kernel
theorem dX11_quick_75 : decode cX11_quick 75 = .ok (.iload_n 1, 1) := by decide +kernel
theorem dX11_quick_76 : decode cX11_quick 76 = .ok (.iconst 1, 1) := by decide +kernel
theorem dX11_quick_77 : decode cX11_quick 77 = .ok (.if_icmp .ne 7, 3) := by decide +kernel
theorem dX11_quick_80 : decode cX11_quick 80 = .ok (.iload_n 3, 1) := by decide +kernel
theorem dX11_quick_81 : decode cX11_quick 81 = .ok (.goto 5, 3) := by decide +kernel
theorem dX11_quick_84 : decode cX11_quick 84 = .ok (.iload 4, 2) := by decide +kernel
theorem dX11_quick_86 : decode cX11_quick 86 = .ok (.ireturn, 1) := by decide +kernel
theorem dX11_watch_0 : decode cX11_watch 0 = .ok (.aload_n 0, 1) := by decide +kernel
theorem dX11_watch_1 : decode cX11_watch 1 = .ok (.iconst 0, 1) := by decide +kernel
theorem dX11_watch_2 : decode cX11_watch 2 = .ok (.putfield 63, 3) := by decide +kernel
theorem dX11_watch_5 : decode cX11_watch 5 = .ok (.iconst 0, 1) := by decide +kernel
theorem dX11_watch_6 : decode cX11_watch 6 = .ok (.istore_n 1, 1) := by decide +kernel
theorem dX11_watch_7 : decode cX11_watch 7 = .ok (.iconst 1, 1) := by decide +kernel
theorem dX11_watch_8 : decode cX11_watch 8 = .ok (.istore_n 2, 1) := by decide +kernel
theorem dX11_watch_9 : decode cX11_watch 9 = .ok (.iload_n 2, 1) := by decide +kernel
theorem dX11_watch_10 : decode cX11_watch 10 = .ok (.bipush 40, 2) := by decide +kernel
theorem dX11_watch_12 : decode cX11_watch 12 = .ok (.if_icmp .gt 25, 3) := by decide +kernel
theorem dX11_watch_15 : decode cX11_watch 15 = .ok (.iload_n 1, 1) := by decide +kernel
theorem dX11_watch_16 : decode cX11_watch 16 = .ok (.aload_n 0, 1) := by decide +kernel
theorem dX11_watch_17 : decode cX11_watch 17 = .ok (.iload_n 2, 1) := by decide +kernel
theorem dX11_watch_18 : decode cX11_watch 18 = .ok (.invokevirtual 244, 3) := by decide +kernel
theorem dX11_watch_21 : decode cX11_watch 21 = .ok (.ifCond .eq 7, 3) := by decide +kernel
theorem dX11_watch_24 : decode cX11_watch 24 = .ok (.iconst 1, 1) := by decide +kernel
theorem dX11_watch_25 : decode cX11_watch 25 = .ok (.goto 4, 3) := by decide +kernel
theorem dX11_watch_28 : decode cX11_watch 28 = .ok (.iconst 0, 1) := by decide +kernel
theorem dX11_watch_29 : decode cX11_watch 29 = .ok (.iadd, 1) := by decide +kernel
theorem dX11_watch_30 : decode cX11_watch 30 = .ok (.istore_n 1, 1) := by decide +kernel
theorem dX11_watch_31 : decode cX11_watch 31 = .ok (.iinc 2 1, 3) := by decide +kernel
theorem dX11_watch_34 : decode cX11_watch 34 = .ok (.goto (-25), 3) := by decide +kernel
theorem dX11_watch_37 : decode cX11_watch 37 = .ok (.iconst (-1), 1) := by decide +kernel
theorem dX11_watch_38 : decode cX11_watch 38 = .ok (.istore_n 2, 1) := by decide +kernel
theorem dX11_watch_39 : decode cX11_watch 39 = .ok (.iload_n 1, 1) := by decide +kernel
theorem dX11_watch_40 : decode cX11_watch 40 = .ok (.istore_n 3, 1) := by decide +kernel
theorem dX11_watch_41 : decode cX11_watch 41 = .ok (.iconst 0, 1) := by decide +kernel
theorem dX11_watch_42 : decode cX11_watch 42 = .ok (.istore 4, 2) := by decide +kernel
theorem dX11_watch_44 : decode cX11_watch 44 = .ok (.iload 4, 2) := by decide +kernel
theorem dX11_watch_46 : decode cX11_watch 46 = .ok (.bipush 40, 2) := by decide +kernel
theorem dX11_watch_48 : decode cX11_watch 48 = .ok (.if_icmp .gt 93, 3) := by decide +kernel
theorem dX11_watch_51 : decode cX11_watch 51 = .ok (.iconst 0, 1) := by decide +kernel
theorem dX11_watch_52 : decode cX11_watch 52 = .ok (.istore 5, 2) := by decide +kernel
theorem dX11_watch_54 : decode cX11_watch 54 = .ok (.iconst 1, 1) := by decide +kernel
theorem dX11_watch_55 : decode cX11_watch 55 = .ok (.istore 6, 2) := by decide +kernel
theorem dX11_watch_57 : decode cX11_watch 57 = .ok (.iload 6, 2) := by decide +kernel
theorem dX11_watch_59 : decode cX11_watch 59 = .ok (.iload 4, 2) := by decide +kernel
theorem dX11_watch_61 : decode cX11_watch 61 = .ok (.if_icmp .gt 28, 3) := by decide +kernel
theorem dX11_watch_64 : decode cX11_watch 64 = .ok (.iload 5, 2) := by decide +kernel
theorem dX11_watch_66 : decode cX11_watch 66 = .ok (.aload_n 0, 1) := by decide +kernel
theorem dX11_watch_67 : decode cX11_watch 67 = .ok (.iload 6, 2) := by decide +kernel
theorem dX11_watch_69 : decode cX11_watch 69 = .ok (.invokevirtual 244, 3) := by decide +kernel
theorem dX11_watch_72 : decode cX11_watch 72 = .ok (.ifCond .eq 7, 3) := by decide +kernel
theorem dX11_watch_75 : decode cX11_watch 75 = .ok (.iconst 1, 1) := by decide +kernel
theorem dX11_watch_76 : decode cX11_watch 76 = .ok (.goto 4, 3) := by decide +kernel
theorem dX11_watch_79 : decode cX11_watch 79 = .ok (.iconst 0, 1) := by decide +kernel
theorem dX11_watch_80 : decode cX11_watch 80 = .ok (.iadd, 1) := by decide +kernel
theorem dX11_watch_81 : decode cX11_watch 81 = .ok (.istore 5, 2) := by decide +kernel
theorem dX11_watch_83 : decode cX11_watch 83 = .ok (.iinc 6 1, 3) := by decide +kernel
theorem dX11_watch_86 : decode cX11_watch 86 = .ok (.goto (-29), 3) := by decide +kernel
theorem dX11_watch_89 : decode cX11_watch 89 = .ok (.iload 5, 2) := by decide +kernel
theorem dX11_watch_91 : decode cX11_watch 91 = .ok (.iload_n 1, 1) := by decide +kernel
theorem dX11_watch_92 : decode cX11_watch 92 = .ok (.iload 5, 2) := by decide +kernel
theorem dX11_watch_94 : decode cX11_watch 94 = .ok (.isub, 1) := by decide +kernel
theorem dX11_watch_95 : decode cX11_watch 95 = .ok (.if_icmp .le 8, 3) := by decide +kernel
theorem dX11_watch_98 : decode cX11_watch 98 = .ok (.iload 5, 2) := by decide +kernel
theorem dX11_watch_100 : decode cX11_watch 100 = .ok (.goto 7, 3) := by decide +kernel
theorem dX11_watch_103 : decode cX11_watch 103 = .ok (.iload_n 1, 1) := by decide +kernel
theorem dX11_watch_104 : decode cX11_watch 104 = .ok (.iload 5, 2) := by decide +kernel
theorem dX11_watch_106 : decode cX11_watch 106 = .ok (.isub, 1) := by decide +kernel
theorem dX11_watch_107 : decode cX11_watch 107 = .ok (.istore 6, 2) := by decide +kernel
theorem dX11_watch_109 : decode cX11_watch 109 = .ok (.iload 6, 2) := by decide +kernel
theorem dX11_watch_111 : decode cX11_watch 111 = .ok (.iload_n 3, 1) := by decide +kernel
theorem dX11_watch_112 : decode cX11_watch 112 = .ok (.if_icmp .ge 8, 3) := by decide +kernel
theorem dX11_watch_115 : decode cX11_watch 115 = .ok (.iload 4, 2) := by decide +kernel
theorem dX11_watch_117 : decode cX11_watch 117 = .ok (.goto 4, 3) := by decide +kernel
theorem dX11_watch_120 : decode cX11_watch 120 = .ok (.iload_n 2, 1) := by decide +kernel
theorem dX11_watch_121 : decode cX11_watch 121 = .ok (.istore_n 2, 1) := by decide +kernel
theorem dX11_watch_122 : decode cX11_watch 122 = .ok (.iload 6, 2) := by decide +kernel
theorem dX11_watch_124 : decode cX11_watch 124 = .ok (.iload_n 3, 1) := by decide +kernel
theorem dX11_watch_125 : decode cX11_watch 125 = .ok (.if_icmp .ge 8, 3) := by decide +kernel
theorem dX11_watch_128 : decode cX11_watch 128 = .ok (.iload 6, 2) := by decide +kernel
theorem dX11_watch_130 : decode cX11_watch 130 = .ok (.goto 4, 3) := by decide +kernel
theorem dX11_watch_133 : decode cX11_watch 133 = .ok (.iload_n 3, 1) := by decide +kernel
theorem dX11_watch_134 : decode cX11_watch 134 = .ok (.istore_n 3, 1) := by decide +kernel
theorem dX11_watch_135 : decode cX11_watch 135 = .ok (.iinc 4 1, 3) := by decide +kernel
theorem dX11_watch_138 : decode cX11_watch 138 = .ok (.goto (-94), 3) := by decide +kernel
theorem dX11_watch_141 : decode cX11_watch 141 = .ok (.iload_n 2, 1) := by decide +kernel
theorem dX11_watch_142 : decode cX11_watch 142 = .ok (.ireturn, 1) := by decide +kernel
theorem dX11_write_0 : decode cX11_write 0 = .ok (.aload_n 0, 1) := by decide +kernel
theorem dX11_write_1 : decode cX11_write 1 = .ok (.iconst 0, 1) := by decide +kernel
theorem dX11_write_2 : decode cX11_write 2 = .ok (.putfield 63, 3) := by decide +kernel
theorem dX11_write_5 : decode cX11_write 5 = .ok (.aload_n 0, 1) := by decide +kernel
theorem dX11_write_6 : decode cX11_write 6 = .ok (.iload_n 1, 1) := by decide +kernel
theorem dX11_write_7 : decode cX11_write 7 = .ok (.invokevirtual 186, 3) := by decide +kernel
theorem dX11_write_10 : decode cX11_write 10 = .ok (.ifCond .eq 11, 3) := by decide +kernel
theorem dX11_write_13 : decode cX11_write 13 = .ok (.aload_n 0, 1) := by decide +kernel
theorem dX11_write_14 : decode cX11_write 14 = .ok (.iload_n 2, 1) := by decide +kernel
theorem dX11_write_15 : decode cX11_write 15 = .ok (.invokevirtual 223, 3) := by decide +kernel
theorem dX11_write_18 : decode cX11_write 18 = .ok (.ifCond .ne 6, 3) := by decide +kernel
theorem dX11_write_21 : decode cX11_write 21 = .ok (.ldc 182, 2) := by decide +kernel
theorem dX11_write_23 : decode cX11_write 23 = .ok (.ireturn, 1) := by decide +kernel
theorem dX11_write_24 : decode cX11_write 24 = .ok (.aload_n 0, 1) := by decide +kernel
theorem dX11_write_25 : decode cX11_write 25 = .ok (.getfield 129, 3) := by decide +kernel
theorem dX11_write_28 : decode cX11_write 28 = .ok (.bipush 15, 2) := by decide +kernel
theorem dX11_write_30 : decode cX11_write 30 = .ok (.if_icmp .ne 6, 3) := by decide +kernel
theorem dX11_write_33 : decode cX11_write 33 = .ok (.ldc 74, 2) := by decide +kernel
theorem dX11_write_35 : decode cX11_write 35 = .ok (.ireturn, 1) := by decide +kernel
theorem dX11_write_36 : decode cX11_write 36 = .ok (.aload_n 0, 1) := by decide +kernel
theorem dX11_write_37 : decode cX11_write 37 = .ok (.getfield 38, 3) := by decide +kernel
theorem dX11_write_40 : decode cX11_write 40 = .ok (.aload_n 0, 1) := by decide +kernel
theorem dX11_write_41 : decode cX11_write 41 = .ok (.getfield 129, 3) := by decide +kernel
theorem dX11_write_44 : decode cX11_write 44 = .ok (.iload_n 1, 1) := by decide +kernel
theorem dX11_write_45 : decode cX11_write 45 = .ok (.iastore, 1) := by decide +kernel
theorem dX11_write_46 : decode cX11_write 46 = .ok (.aload_n 0, 1) := by decide +kernel
theorem dX11_write_47 : decode cX11_write 47 = .ok (.getfield 41, 3) := by decide +kernel
theorem dX11_write_50 : decode cX11_write 50 = .ok (.aload_n 0, 1) := by decide +kernel
theorem dX11_write_51 : decode cX11_write 51 = .ok (.getfield 129, 3) := by decide +kernel
theorem dX11_write_54 : decode cX11_write 54 = .ok (.iload_n 2, 1) := by decide +kernel
theorem dX11_write_55 : decode cX11_write 55 = .ok (.iastore, 1) := by decide +kernel
theorem dX11_write_56 : decode cX11_write 56 = .ok (.aload_n 0, 1) := by decide +kernel
theorem dX11_write_57 : decode cX11_write 57 = .ok (.dup, 1) := by decide +kernel
theorem dX11_write_58 : decode cX11_write 58 = .ok (.getfield 129, 3) := by decide +kernel
theorem dX11_write_61 : decode cX11_write 61 = .ok (.iconst 1, 1) := by decide +kernel
theorem dX11_write_62 : decode cX11_write 62 = .ok (.iadd, 1) := by decide +kernel
theorem dX11_write_63 : decode cX11_write 63 = .ok (.putfield 129, 3) := by decide +kernel
theorem dX11_write_66 : decode cX11_write 66 = .ok (.aload_n 0, 1) := by decide +kernel
theorem dX11_write_67 : decode cX11_write 67 = .ok (.getfield 129, 3) := by decide +kernel
theorem dX11_write_70 : decode cX11_write 70 = .ok (.ireturn, 1) := by decide +kernel
theorem dX11_tear_0 : decode cX11_tear 0 = .ok (.aload_n 0, 1) := by decide +kernel
theorem dX11_tear_1 : decode cX11_tear 1 = .ok (.iconst 0, 1) := by decide +kernel
theorem dX11_tear_2 : decode cX11_tear 2 = .ok (.putfield 63, 3) := by decide +kernel
theorem dX11_tear_5 : decode cX11_tear 5 = .ok (.aload_n 0, 1) := by decide +kernel
theorem dX11_tear_6 : decode cX11_tear 6 = .ok (.getfield 126, 3) := by decide +kernel
theorem dX11_tear_9 : decode cX11_tear 9 = .ok (.aload_n 0, 1) := by decide +kernel
theorem dX11_tear_10 : decode cX11_tear 10 = .ok (.getfield 129, 3) := by decide +kernel
theorem dX11_tear_13 : decode cX11_tear 13 = .ok (.iadd, 1) := by decide +kernel
theorem dX11_tear_14 : decode cX11_tear 14 = .ok (.istore_n 1, 1) := by decide +kernel
theorem dX11_tear_15 : decode cX11_tear 15 = .ok (.aload_n 0, 1) := by decide +kernel
theorem dX11_tear_16 : decode cX11_tear 16 = .ok (.iconst 0, 1) := by decide +kernel
theorem dX11_tear_17 : decode cX11_tear 17 = .ok (.putfield 126, 3) := by decide +kernel
theorem dX11_tear_20 : decode cX11_tear 20 = .ok (.aload_n 0, 1) := by decide +kernel
theorem dX11_tear_21 : decode cX11_tear 21 = .ok (.iconst 0, 1) := by decide +kernel
theorem dX11_tear_22 : decode cX11_tear 22 = .ok (.putfield 129, 3) := by decide +kernel
theorem dX11_tear_25 : decode cX11_tear 25 = .ok (.iload_n 1, 1) := by decide +kernel
theorem dX11_tear_26 : decode cX11_tear 26 = .ok (.ireturn, 1) := by decide +kernel
theorem dX11_judge_0 : decode cX11_judge 0 = .ok (.aload_n 0, 1) := by decide +kernel
theorem dX11_judge_1 : decode cX11_judge 1 = .ok (.iconst 0, 1) := by decide +kernel
theorem dX11_judge_2 : decode cX11_judge 2 = .ok (.putfield 63, 3) := by decide +kernel
theorem dX11_judge_5 : decode cX11_judge 5 = .ok (.iconst 0, 1) := by decide +kernel
theorem dX11_judge_6 : decode cX11_judge 6 = .ok (.istore_n 1, 1) := by decide +kernel
theorem dX11_judge_7 : decode cX11_judge 7 = .ok (.iload_n 1, 1) := by decide +kernel
theorem dX11_judge_8 : decode cX11_judge 8 = .ok (.aload_n 0, 1) := by decide +kernel
theorem dX11_judge_9 : decode cX11_judge 9 = .ok (.getfield 129, 3) := by decide +kernel
theorem dX11_judge_12 : decode cX11_judge 12 = .ok (.if_icmp .ge 33, 3) := by decide +kernel
theorem dX11_judge_15 : decode cX11_judge 15 = .ok (.aload_n 0, 1) := by decide +kernel
theorem dX11_judge_16 : decode cX11_judge 16 = .ok (.getfield 19, 3) := by decide +kernel
theorem dX11_judge_19 : decode cX11_judge 19 = .ok (.iconst 0, 1) := by decide +kernel
theorem dX11_judge_20 : decode cX11_judge 20 = .ok (.aload_n 0, 1) := by decide +kernel
theorem dX11_judge_21 : decode cX11_judge 21 = .ok (.getfield 38, 3) := by decide +kernel
theorem dX11_judge_24 : decode cX11_judge 24 = .ok (.iload_n 1, 1) := by decide +kernel
theorem dX11_judge_25 : decode cX11_judge 25 = .ok (.iaload, 1) := by decide +kernel
theorem dX11_judge_26 : decode cX11_judge 26 = .ok (.iadd, 1) := by decide +kernel
theorem dX11_judge_27 : decode cX11_judge 27 = .ok (.iaload, 1) := by decide +kernel
theorem dX11_judge_28 : decode cX11_judge 28 = .ok (.aload_n 0, 1) := by decide +kernel
theorem dX11_judge_29 : decode cX11_judge 29 = .ok (.getfield 41, 3) := by decide +kernel
theorem dX11_judge_32 : decode cX11_judge 32 = .ok (.iload_n 1, 1) := by decide +kernel
theorem dX11_judge_33 : decode cX11_judge 33 = .ok (.iaload, 1) := by decide +kernel
theorem dX11_judge_34 : decode cX11_judge 34 = .ok (.if_icmp .eq 5, 3) := by decide +kernel
theorem dX11_judge_37 : decode cX11_judge 37 = .ok (.iload_n 1, 1) := by decide +kernel
theorem dX11_judge_38 : decode cX11_judge 38 = .ok (.ireturn, 1) := by decide +kernel
theorem dX11_judge_39 : decode cX11_judge 39 = .ok (.iinc 1 1, 3) := by decide +kernel
theorem dX11_judge_42 : decode cX11_judge 42 = .ok (.goto (-35), 3) := by decide +kernel
theorem dX11_judge_45 : decode cX11_judge 45 = .ok (.iconst (-1), 1) := by decide +kernel
theorem dX11_judge_46 : decode cX11_judge 46 = .ok (.ireturn, 1) := by decide +kernel
theorem dX11_seed_0 : decode cX11_seed 0 = .ok (.aload_n 0, 1) := by decide +kernel
theorem dX11_seed_1 : decode cX11_seed 1 = .ok (.iconst 0, 1) := by decide +kernel
theorem dX11_seed_2 : decode cX11_seed 2 = .ok (.putfield 63, 3) := by decide +kernel
theorem dX11_seed_5 : decode cX11_seed 5 = .ok (.iload_n 1, 1) := by decide +kernel
theorem dX11_seed_6 : decode cX11_seed 6 = .ok (.ifCond .ge 6, 3) := by decide +kernel
theorem dX11_seed_9 : decode cX11_seed 9 = .ok (.ldc 70, 2) := by decide +kernel
theorem dX11_seed_11 : decode cX11_seed 11 = .ok (.ireturn, 1) := by decide +kernel
theorem dX11_seed_12 : decode cX11_seed 12 = .ok (.aload_n 0, 1) := by decide +kernel
theorem dX11_seed_13 : decode cX11_seed 13 = .ok (.getfield 19, 3) := by decide +kernel
theorem dX11_seed_16 : decode cX11_seed 16 = .ok (.sipush 133, 3) := by decide +kernel
theorem dX11_seed_19 : decode cX11_seed 19 = .ok (.iaload, 1) := by decide +kernel
theorem dX11_seed_20 : decode cX11_seed 20 = .ok (.istore_n 2, 1) := by decide +kernel
theorem dX11_seed_21 : decode cX11_seed 21 = .ok (.aload_n 0, 1) := by decide +kernel
theorem dX11_seed_22 : decode cX11_seed 22 = .ok (.getfield 19, 3) := by decide +kernel
theorem dX11_seed_25 : decode cX11_seed 25 = .ok (.sipush 133, 3) := by decide +kernel
theorem dX11_seed_28 : decode cX11_seed 28 = .ok (.iload_n 1, 1) := by decide +kernel
theorem dX11_seed_29 : decode cX11_seed 29 = .ok (.iastore, 1) := by decide +kernel
theorem dX11_seed_30 : decode cX11_seed 30 = .ok (.iload_n 2, 1) := by decide +kernel
theorem dX11_seed_31 : decode cX11_seed 31 = .ok (.ireturn, 1) := by decide +kernel
theorem dX11_keep_0 : decode cX11_keep 0 = .ok (.aload_n 0, 1) := by decide +kernel
theorem dX11_keep_1 : decode cX11_keep 1 = .ok (.iconst 0, 1) := by decide +kernel
theorem dX11_keep_2 : decode cX11_keep 2 = .ok (.putfield 63, 3) := by decide +kernel
theorem dX11_keep_5 : decode cX11_keep 5 = .ok (.iload_n 1, 1) := by decide +kernel
theorem dX11_keep_6 : decode cX11_keep 6 = .ok (.iconst 0, 1) := by decide +kernel
theorem dX11_keep_7 : decode cX11_keep 7 = .ok (.iconst 1, 1) := by decide +kernel
theorem dX11_keep_8 : decode cX11_keep 8 = .ok (.invokestatic 66, 3) := by decide +kernel
theorem dX11_keep_11 : decode cX11_keep 11 = .ok (.ifCond .ne 6, 3) := by decide +kernel
theorem dX11_keep_14 : decode cX11_keep 14 = .ok (.ldc 182, 2) := by decide +kernel
theorem dX11_keep_16 : decode cX11_keep 16 = .ok (.ireturn, 1) := by decide +kernel
theorem dX11_keep_17 : decode cX11_keep 17 = .ok (.iconst 0, 1) := by decide +kernel
theorem dX11_keep_18 : decode cX11_keep 18 = .ok (.istore_n 2, 1) := by decide +kernel
theorem dX11_keep_19 : decode cX11_keep 19 = .ok (.iload_n 2, 1) := by decide +kernel
theorem dX11_keep_20 : decode cX11_keep 20 = .ok (.sipush 134, 3) := by decide +kernel
theorem dX11_keep_23 : decode cX11_keep 23 = .ok (.if_icmp .ge 27, 3) := by decide +kernel
theorem dX11_keep_26 : decode cX11_keep 26 = .ok (.aload_n 0, 1) := by decide +kernel
theorem dX11_keep_27 : decode cX11_keep 27 = .ok (.getfield 22, 3) := by decide +kernel
theorem dX11_keep_30 : decode cX11_keep 30 = .ok (.sipush 134, 3) := by decide +kernel
theorem dX11_keep_33 : decode cX11_keep 33 = .ok (.iload_n 1, 1) := by decide +kernel
theorem dX11_keep_34 : decode cX11_keep 34 = .ok (.imul, 1) := by decide +kernel
theorem dX11_keep_35 : decode cX11_keep 35 = .ok (.iload_n 2, 1) := by decide +kernel
theorem dX11_keep_36 : decode cX11_keep 36 = .ok (.iadd, 1) := by decide +kernel
theorem dX11_keep_37 : decode cX11_keep 37 = .ok (.aload_n 0, 1) := by decide +kernel
theorem dX11_keep_38 : decode cX11_keep 38 = .ok (.getfield 19, 3) := by decide +kernel
theorem dX11_keep_41 : decode cX11_keep 41 = .ok (.iload_n 2, 1) := by decide +kernel
theorem dX11_keep_42 : decode cX11_keep 42 = .ok (.iaload, 1) := by decide +kernel
theorem dX11_keep_43 : decode cX11_keep 43 = .ok (.iastore, 1) := by decide +kernel
theorem dX11_keep_44 : decode cX11_keep 44 = .ok (.iinc 2 1, 3) := by decide +kernel
theorem dX11_keep_47 : decode cX11_keep 47 = .ok (.goto (-28), 3) := by decide +kernel
theorem dX11_keep_50 : decode cX11_keep 50 = .ok (.aload_n 0, 1) := by decide +kernel
theorem dX11_keep_51 : decode cX11_keep 51 = .ok (.getfield 25, 3) := by decide +kernel
theorem dX11_keep_54 : decode cX11_keep 54 = .ok (.iload_n 1, 1) := by decide +kernel
theorem dX11_keep_55 : decode cX11_keep 55 = .ok (.iconst 1, 1) := by decide +kernel
theorem dX11_keep_56 : decode cX11_keep 56 = .ok (.bastore, 1) := by decide +kernel
theorem dX11_keep_57 : decode cX11_keep 57 = .ok (.aload_n 0, 1) := by decide +kernel
theorem dX11_keep_58 : decode cX11_keep 58 = .ok (.iconst 0, 1) := by decide +kernel
theorem dX11_keep_59 : decode cX11_keep 59 = .ok (.putfield 132, 3) := by decide +kernel
theorem dX11_keep_62 : decode cX11_keep 62 = .ok (.iconst 1, 1) := by decide +kernel
theorem dX11_keep_63 : decode cX11_keep 63 = .ok (.ireturn, 1) := by decide +kernel
theorem dX11_goBack_0 : decode cX11_goBack 0 = .ok (.aload_n 0, 1) := by decide +kernel
theorem dX11_goBack_1 : decode cX11_goBack 1 = .ok (.iconst 0, 1) := by decide +kernel
theorem dX11_goBack_2 : decode cX11_goBack 2 = .ok (.putfield 63, 3) := by decide +kernel
theorem dX11_goBack_5 : decode cX11_goBack 5 = .ok (.iload_n 1, 1) := by decide +kernel
theorem dX11_goBack_6 : decode cX11_goBack 6 = .ok (.iconst 0, 1) := by decide +kernel
theorem dX11_goBack_7 : decode cX11_goBack 7 = .ok (.iconst 1, 1) := by decide +kernel
theorem dX11_goBack_8 : decode cX11_goBack 8 = .ok (.invokestatic 66, 3) := by decide +kernel
theorem dX11_goBack_11 : decode cX11_goBack 11 = .ok (.ifCond .ne 6, 3) := by decide +kernel
theorem dX11_goBack_14 : decode cX11_goBack 14 = .ok (.ldc 182, 2) := by decide +kernel
theorem dX11_goBack_16 : decode cX11_goBack 16 = .ok (.ireturn, 1) := by decide +kernel
theorem dX11_goBack_17 : decode cX11_goBack 17 = .ok (.aload_n 0, 1) := by decide +kernel
theorem dX11_goBack_18 : decode cX11_goBack 18 = .ok (.getfield 25, 3) := by decide +kernel
theorem dX11_goBack_21 : decode cX11_goBack 21 = .ok (.iload_n 1, 1) := by decide +kernel
theorem dX11_goBack_22 : decode cX11_goBack 22 = .ok (.baload, 1) := by decide +kernel
theorem dX11_goBack_23 : decode cX11_goBack 23 = .ok (.ifCond .ne 6, 3) := by decide +kernel
theorem dX11_goBack_26 : decode cX11_goBack 26 = .ok (.ldc 199, 2) := by decide +kernel
theorem dX11_goBack_28 : decode cX11_goBack 28 = .ok (.ireturn, 1) := by decide +kernel
theorem dX11_goBack_29 : decode cX11_goBack 29 = .ok (.iconst 0, 1) := by decide +kernel
theorem dX11_goBack_30 : decode cX11_goBack 30 = .ok (.istore_n 2, 1) := by decide +kernel
theorem dX11_goBack_31 : decode cX11_goBack 31 = .ok (.iload_n 2, 1) := by decide +kernel
theorem dX11_goBack_32 : decode cX11_goBack 32 = .ok (.sipush 134, 3) := by decide +kernel
theorem dX11_goBack_35 : decode cX11_goBack 35 = .ok (.if_icmp .ge 27, 3) := by decide +kernel
theorem dX11_goBack_38 : decode cX11_goBack 38 = .ok (.aload_n 0, 1) := by decide +kernel
theorem dX11_goBack_39 : decode cX11_goBack 39 = .ok (.getfield 19, 3) := by decide +kernel
theorem dX11_goBack_42 : decode cX11_goBack 42 = .ok (.iload_n 2, 1) := by decide +kernel
theorem dX11_goBack_43 : decode cX11_goBack 43 = .ok (.aload_n 0, 1) := by decide +kernel
theorem dX11_goBack_44 : decode cX11_goBack 44 = .ok (.getfield 22, 3) := by decide +kernel
theorem dX11_goBack_47 : decode cX11_goBack 47 = .ok (.sipush 134, 3) := by decide +kernel
theorem dX11_goBack_50 : decode cX11_goBack 50 = .ok (.iload_n 1, 1) := by decide +kernel
theorem dX11_goBack_51 : decode cX11_goBack 51 = .ok (.imul, 1) := by decide +kernel
theorem dX11_goBack_52 : decode cX11_goBack 52 = .ok (.iload_n 2, 1) := by decide +kernel
theorem dX11_goBack_53 : decode cX11_goBack 53 = .ok (.iadd, 1) := by decide +kernel
theorem dX11_goBack_54 : decode cX11_goBack 54 = .ok (.iaload, 1) := by decide +kernel
theorem dX11_goBack_55 : decode cX11_goBack 55 = .ok (.iastore, 1) := by decide +kernel
theorem dX11_goBack_56 : decode cX11_goBack 56 = .ok (.iinc 2 1, 3) := by decide +kernel
theorem dX11_goBack_59 : decode cX11_goBack 59 = .ok (.goto (-28), 3) := by decide +kernel
theorem dX11_goBack_62 : decode cX11_goBack 62 = .ok (.aload_n 0, 1) := by decide +kernel
theorem dX11_goBack_63 : decode cX11_goBack 63 = .ok (.iconst 0, 1) := by decide +kernel
theorem dX11_goBack_64 : decode cX11_goBack 64 = .ok (.putfield 132, 3) := by decide +kernel
theorem dX11_goBack_67 : decode cX11_goBack 67 = .ok (.iconst 1, 1) := by decide +kernel
theorem dX11_goBack_68 : decode cX11_goBack 68 = .ok (.ireturn, 1) := by decide +kernel
