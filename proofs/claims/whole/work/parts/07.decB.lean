theorem d_D_init_0 : decode k_D_init 0 = .ok (.aload_n 0, 1) := by decide +kernel
theorem d_D_init_1 : decode k_D_init 1 = .ok (.invokespecial 1, 3) := by decide +kernel
theorem d_D_init_4 : decode k_D_init 4 = .ok (.aload_n 0, 1) := by decide +kernel
theorem d_D_init_5 : decode k_D_init 5 = .ok (.bipush 9, 2) := by decide +kernel
theorem d_D_init_7 : decode k_D_init 7 = .ok (.newarray .int, 2) := by decide +kernel
theorem d_D_init_9 : decode k_D_init 9 = .ok (.dup, 1) := by decide +kernel
theorem d_D_init_10 : decode k_D_init 10 = .ok (.iconst 0, 1) := by decide +kernel
theorem d_D_init_11 : decode k_D_init 11 = .ok (.iconst 3, 1) := by decide +kernel
theorem d_D_init_12 : decode k_D_init 12 = .ok (.iastore, 1) := by decide +kernel
theorem d_D_init_13 : decode k_D_init 13 = .ok (.dup, 1) := by decide +kernel
theorem d_D_init_14 : decode k_D_init 14 = .ok (.iconst 1, 1) := by decide +kernel
theorem d_D_init_15 : decode k_D_init 15 = .ok (.iconst 3, 1) := by decide +kernel
theorem d_D_init_16 : decode k_D_init 16 = .ok (.iastore, 1) := by decide +kernel
theorem d_D_init_17 : decode k_D_init 17 = .ok (.dup, 1) := by decide +kernel
theorem d_D_init_18 : decode k_D_init 18 = .ok (.iconst 2, 1) := by decide +kernel
theorem d_D_init_19 : decode k_D_init 19 = .ok (.bipush 7, 2) := by decide +kernel
theorem d_D_init_21 : decode k_D_init 21 = .ok (.iastore, 1) := by decide +kernel
theorem d_D_init_22 : decode k_D_init 22 = .ok (.dup, 1) := by decide +kernel
theorem d_D_init_23 : decode k_D_init 23 = .ok (.iconst 3, 1) := by decide +kernel
theorem d_D_init_24 : decode k_D_init 24 = .ok (.iconst 2, 1) := by decide +kernel
theorem d_D_init_25 : decode k_D_init 25 = .ok (.iastore, 1) := by decide +kernel
theorem d_D_init_26 : decode k_D_init 26 = .ok (.dup, 1) := by decide +kernel
theorem d_D_init_27 : decode k_D_init 27 = .ok (.iconst 4, 1) := by decide +kernel
theorem d_D_init_28 : decode k_D_init 28 = .ok (.iconst 4, 1) := by decide +kernel
theorem d_D_init_29 : decode k_D_init 29 = .ok (.iastore, 1) := by decide +kernel
theorem d_D_init_30 : decode k_D_init 30 = .ok (.dup, 1) := by decide +kernel
theorem d_D_init_31 : decode k_D_init 31 = .ok (.iconst 5, 1) := by decide +kernel
theorem d_D_init_32 : decode k_D_init 32 = .ok (.iconst 5, 1) := by decide +kernel
theorem d_D_init_33 : decode k_D_init 33 = .ok (.iastore, 1) := by decide +kernel
theorem d_D_init_34 : decode k_D_init 34 = .ok (.dup, 1) := by decide +kernel
theorem d_D_init_35 : decode k_D_init 35 = .ok (.bipush 6, 2) := by decide +kernel
theorem d_D_init_37 : decode k_D_init 37 = .ok (.iconst 2, 1) := by decide +kernel
theorem d_D_init_38 : decode k_D_init 38 = .ok (.iastore, 1) := by decide +kernel
theorem d_D_init_39 : decode k_D_init 39 = .ok (.dup, 1) := by decide +kernel
theorem d_D_init_40 : decode k_D_init 40 = .ok (.bipush 7, 2) := by decide +kernel
theorem d_D_init_42 : decode k_D_init 42 = .ok (.bipush 10, 2) := by decide +kernel
theorem d_D_init_44 : decode k_D_init 44 = .ok (.iastore, 1) := by decide +kernel
theorem d_D_init_45 : decode k_D_init 45 = .ok (.dup, 1) := by decide +kernel
theorem d_D_init_46 : decode k_D_init 46 = .ok (.bipush 8, 2) := by decide +kernel
theorem d_D_init_48 : decode k_D_init 48 = .ok (.bipush 12, 2) := by decide +kernel
theorem d_D_init_50 : decode k_D_init 50 = .ok (.iastore, 1) := by decide +kernel
theorem d_D_init_51 : decode k_D_init 51 = .ok (.putfield 7, 3) := by decide +kernel
theorem d_D_init_54 : decode k_D_init 54 = .ok (.aload_n 0, 1) := by decide +kernel
theorem d_D_init_55 : decode k_D_init 55 = .ok (.bipush 32, 2) := by decide +kernel
theorem d_D_init_57 : decode k_D_init 57 = .ok (.newarray .int, 2) := by decide +kernel
theorem d_D_init_59 : decode k_D_init 59 = .ok (.putfield 13, 3) := by decide +kernel
theorem d_D_init_62 : decode k_D_init 62 = .ok (.aload_n 0, 1) := by decide +kernel
theorem d_D_init_63 : decode k_D_init 63 = .ok (.bipush 32, 2) := by decide +kernel
theorem d_D_init_65 : decode k_D_init 65 = .ok (.newarray .int, 2) := by decide +kernel
theorem d_D_init_67 : decode k_D_init 67 = .ok (.putfield 16, 3) := by decide +kernel
theorem d_D_init_70 : decode k_D_init 70 = .ok (.aload_n 0, 1) := by decide +kernel
theorem d_D_init_71 : decode k_D_init 71 = .ok (.bipush 32, 2) := by decide +kernel
theorem d_D_init_73 : decode k_D_init 73 = .ok (.newarray .int, 2) := by decide +kernel
theorem d_D_init_75 : decode k_D_init 75 = .ok (.putfield 19, 3) := by decide +kernel
theorem d_D_init_78 : decode k_D_init 78 = .ok (.aload_n 0, 1) := by decide +kernel
theorem d_D_init_79 : decode k_D_init 79 = .ok (.bipush 32, 2) := by decide +kernel
theorem d_D_init_81 : decode k_D_init 81 = .ok (.newarray .int, 2) := by decide +kernel
theorem d_D_init_83 : decode k_D_init 83 = .ok (.putfield 22, 3) := by decide +kernel
theorem d_D_init_86 : decode k_D_init 86 = .ok (.aload_n 0, 1) := by decide +kernel
theorem d_D_init_87 : decode k_D_init 87 = .ok (.bipush 32, 2) := by decide +kernel
theorem d_D_init_89 : decode k_D_init 89 = .ok (.newarray .int, 2) := by decide +kernel
theorem d_D_init_91 : decode k_D_init 91 = .ok (.putfield 25, 3) := by decide +kernel
theorem d_D_init_94 : decode k_D_init 94 = .ok (.aload_n 0, 1) := by decide +kernel
theorem d_D_init_95 : decode k_D_init 95 = .ok (.iconst 4, 1) := by decide +kernel
theorem d_D_init_96 : decode k_D_init 96 = .ok (.newarray .int, 2) := by decide +kernel
theorem d_D_init_98 : decode k_D_init 98 = .ok (.putfield 28, 3) := by decide +kernel
theorem d_D_init_101 : decode k_D_init 101 = .ok (.aload_n 0, 1) := by decide +kernel
theorem d_D_init_102 : decode k_D_init 102 = .ok (.iconst 4, 1) := by decide +kernel
theorem d_D_init_103 : decode k_D_init 103 = .ok (.newarray .int, 2) := by decide +kernel
theorem d_D_init_105 : decode k_D_init 105 = .ok (.putfield 31, 3) := by decide +kernel
theorem d_D_init_108 : decode k_D_init 108 = .ok (.aload_n 0, 1) := by decide +kernel
theorem d_D_init_109 : decode k_D_init 109 = .ok (.iconst 4, 1) := by decide +kernel
theorem d_D_init_110 : decode k_D_init 110 = .ok (.newarray .int, 2) := by decide +kernel
theorem d_D_init_112 : decode k_D_init 112 = .ok (.putfield 34, 3) := by decide +kernel
theorem d_D_init_115 : decode k_D_init 115 = .ok (.aload_n 0, 1) := by decide +kernel
theorem d_D_init_116 : decode k_D_init 116 = .ok (.bipush 16, 2) := by decide +kernel
theorem d_D_init_118 : decode k_D_init 118 = .ok (.newarray .int, 2) := by decide +kernel
theorem d_D_init_120 : decode k_D_init 120 = .ok (.putfield 37, 3) := by decide +kernel
theorem d_D_init_123 : decode k_D_init 123 = .ok (.aload_n 0, 1) := by decide +kernel
theorem d_D_init_124 : decode k_D_init 124 = .ok (.iconst 4, 1) := by decide +kernel
theorem d_D_init_125 : decode k_D_init 125 = .ok (.newarray .int, 2) := by decide +kernel
theorem d_D_init_127 : decode k_D_init 127 = .ok (.putfield 40, 3) := by decide +kernel
theorem d_D_init_130 : decode k_D_init 130 = .ok (.aload_n 0, 1) := by decide +kernel
theorem d_D_init_131 : decode k_D_init 131 = .ok (.iconst 2, 1) := by decide +kernel
theorem d_D_init_132 : decode k_D_init 132 = .ok (.newarray .boolean, 2) := by decide +kernel
theorem d_D_init_134 : decode k_D_init 134 = .ok (.putfield 43, 3) := by decide +kernel
theorem d_D_init_137 : decode k_D_init 137 = .ok (.aload_n 0, 1) := by decide +kernel
theorem d_D_init_138 : decode k_D_init 138 = .ok (.iconst 2, 1) := by decide +kernel
theorem d_D_init_139 : decode k_D_init 139 = .ok (.newarray .int, 2) := by decide +kernel
theorem d_D_init_141 : decode k_D_init 141 = .ok (.putfield 47, 3) := by decide +kernel
theorem d_D_init_144 : decode k_D_init 144 = .ok (.aload_n 0, 1) := by decide +kernel
theorem d_D_init_145 : decode k_D_init 145 = .ok (.sipush 600, 3) := by decide +kernel
theorem d_D_init_148 : decode k_D_init 148 = .ok (.newarray .int, 2) := by decide +kernel
theorem d_D_init_150 : decode k_D_init 150 = .ok (.putfield 50, 3) := by decide +kernel
theorem d_D_init_153 : decode k_D_init 153 = .ok (.aload_n 0, 1) := by decide +kernel
theorem d_D_init_154 : decode k_D_init 154 = .ok (.sipush 600, 3) := by decide +kernel
theorem d_D_init_157 : decode k_D_init 157 = .ok (.newarray .boolean, 2) := by decide +kernel
theorem d_D_init_159 : decode k_D_init 159 = .ok (.putfield 53, 3) := by decide +kernel
theorem d_D_init_162 : decode k_D_init 162 = .ok (.aload_n 0, 1) := by decide +kernel
theorem d_D_init_163 : decode k_D_init 163 = .ok (.sipush 600, 3) := by decide +kernel
theorem d_D_init_166 : decode k_D_init 166 = .ok (.newarray .int, 2) := by decide +kernel
theorem d_D_init_168 : decode k_D_init 168 = .ok (.putfield 56, 3) := by decide +kernel
theorem d_D_init_171 : decode k_D_init 171 = .ok (.aload_n 0, 1) := by decide +kernel
theorem d_D_init_172 : decode k_D_init 172 = .ok (.sipush 600, 3) := by decide +kernel
theorem d_D_init_175 : decode k_D_init 175 = .ok (.newarray .int, 2) := by decide +kernel
theorem d_D_init_177 : decode k_D_init 177 = .ok (.putfield 59, 3) := by decide +kernel
theorem d_D_init_180 : decode k_D_init 180 = .ok (.aload_n 0, 1) := by decide +kernel
theorem d_D_init_181 : decode k_D_init 181 = .ok (.iconst 5, 1) := by decide +kernel
theorem d_D_init_182 : decode k_D_init 182 = .ok (.newarray .int, 2) := by decide +kernel
theorem d_D_init_184 : decode k_D_init 184 = .ok (.putfield 62, 3) := by decide +kernel
theorem d_D_init_187 : decode k_D_init 187 = .ok (.aload_n 0, 1) := by decide +kernel
theorem d_D_init_188 : decode k_D_init 188 = .ok (.sipush 512, 3) := by decide +kernel
theorem d_D_init_191 : decode k_D_init 191 = .ok (.newarray .int, 2) := by decide +kernel
theorem d_D_init_193 : decode k_D_init 193 = .ok (.putfield 65, 3) := by decide +kernel
theorem d_D_init_196 : decode k_D_init 196 = .ok (.aload_n 0, 1) := by decide +kernel
theorem d_D_init_197 : decode k_D_init 197 = .ok (.sipush 512, 3) := by decide +kernel
theorem d_D_init_200 : decode k_D_init 200 = .ok (.newarray .int, 2) := by decide +kernel
theorem d_D_init_202 : decode k_D_init 202 = .ok (.putfield 68, 3) := by decide +kernel
theorem d_D_init_205 : decode k_D_init 205 = .ok (.aload_n 0, 1) := by decide +kernel
theorem d_D_init_206 : decode k_D_init 206 = .ok (.sipush 512, 3) := by decide +kernel
theorem d_D_init_209 : decode k_D_init 209 = .ok (.newarray .int, 2) := by decide +kernel
theorem d_D_init_211 : decode k_D_init 211 = .ok (.putfield 71, 3) := by decide +kernel
theorem d_D_init_214 : decode k_D_init 214 = .ok (.aload_n 0, 1) := by decide +kernel
theorem d_D_init_215 : decode k_D_init 215 = .ok (.sipush 512, 3) := by decide +kernel
theorem d_D_init_218 : decode k_D_init 218 = .ok (.newarray .int, 2) := by decide +kernel
theorem d_D_init_220 : decode k_D_init 220 = .ok (.putfield 74, 3) := by decide +kernel
theorem d_D_init_223 : decode k_D_init 223 = .ok (.aload_n 0, 1) := by decide +kernel
theorem d_D_init_224 : decode k_D_init 224 = .ok (.sipush 512, 3) := by decide +kernel
theorem d_D_init_227 : decode k_D_init 227 = .ok (.newarray .int, 2) := by decide +kernel
theorem d_D_init_229 : decode k_D_init 229 = .ok (.putfield 77, 3) := by decide +kernel
theorem d_D_init_232 : decode k_D_init 232 = .ok (.aload_n 0, 1) := by decide +kernel
theorem d_D_init_233 : decode k_D_init 233 = .ok (.iconst 1, 1) := by decide +kernel
theorem d_D_init_234 : decode k_D_init 234 = .ok (.iload_n 1, 1) := by decide +kernel
theorem d_D_init_235 : decode k_D_init 235 = .ok (.iconst 1, 1) := by decide +kernel
theorem d_D_init_236 : decode k_D_init 236 = .ok (.iand, 1) := by decide +kernel
theorem d_D_init_237 : decode k_D_init 237 = .ok (.iadd, 1) := by decide +kernel
theorem d_D_init_238 : decode k_D_init 238 = .ok (.putfield 80, 3) := by decide +kernel
theorem d_D_init_241 : decode k_D_init 241 = .ok (.aload_n 0, 1) := by decide +kernel
theorem d_D_init_242 : decode k_D_init 242 = .ok (.iload_n 2, 1) := by decide +kernel
theorem d_D_init_243 : decode k_D_init 243 = .ok (.iconst 3, 1) := by decide +kernel
theorem d_D_init_244 : decode k_D_init 244 = .ok (.iand, 1) := by decide +kernel
theorem d_D_init_245 : decode k_D_init 245 = .ok (.putfield 84, 3) := by decide +kernel
theorem d_D_init_248 : decode k_D_init 248 = .ok (.aload_n 0, 1) := by decide +kernel
theorem d_D_init_249 : decode k_D_init 249 = .ok (.iconst 1, 1) := by decide +kernel
theorem d_D_init_250 : decode k_D_init 250 = .ok (.aload_n 0, 1) := by decide +kernel
theorem d_D_init_251 : decode k_D_init 251 = .ok (.getfield 84, 3) := by decide +kernel
theorem d_D_init_254 : decode k_D_init 254 = .ok (.ishl, 1) := by decide +kernel
theorem d_D_init_255 : decode k_D_init 255 = .ok (.putfield 87, 3) := by decide +kernel
theorem d_D_init_258 : decode k_D_init 258 = .ok (.aload_n 0, 1) := by decide +kernel
theorem d_D_init_259 : decode k_D_init 259 = .ok (.iload_n 3, 1) := by decide +kernel
theorem d_D_init_260 : decode k_D_init 260 = .ok (.iconst 3, 1) := by decide +kernel
theorem d_D_init_261 : decode k_D_init 261 = .ok (.iand, 1) := by decide +kernel
theorem d_D_init_262 : decode k_D_init 262 = .ok (.putfield 90, 3) := by decide +kernel
theorem d_D_init_265 : decode k_D_init 265 = .ok (.iconst 0, 1) := by decide +kernel
theorem d_D_init_266 : decode k_D_init 266 = .ok (.istore 4, 2) := by decide +kernel
theorem d_D_init_268 : decode k_D_init 268 = .ok (.iload 4, 2) := by decide +kernel
theorem d_D_init_270 : decode k_D_init 270 = .ok (.iconst 4, 1) := by decide +kernel
theorem d_D_init_271 : decode k_D_init 271 = .ok (.if_icmp .ge 15, 3) := by decide +kernel
theorem d_D_init_274 : decode k_D_init 274 = .ok (.aload_n 0, 1) := by decide +kernel
theorem d_D_init_275 : decode k_D_init 275 = .ok (.iload 4, 2) := by decide +kernel
theorem d_D_init_277 : decode k_D_init 277 = .ok (.invokevirtual 93, 3) := by decide +kernel
theorem d_D_init_280 : decode k_D_init 280 = .ok (.iinc 4 1, 3) := by decide +kernel
theorem d_D_init_283 : decode k_D_init 283 = .ok (.goto (-15), 3) := by decide +kernel
theorem d_D_init_286 : decode k_D_init 286 = .ok (.aload_n 0, 1) := by decide +kernel
theorem d_D_init_287 : decode k_D_init 287 = .ok (.getfield 47, 3) := by decide +kernel
theorem d_D_init_290 : decode k_D_init 290 = .ok (.iconst 0, 1) := by decide +kernel
theorem d_D_init_291 : decode k_D_init 291 = .ok (.aload_n 0, 1) := by decide +kernel
theorem d_D_init_292 : decode k_D_init 292 = .ok (.getfield 87, 3) := by decide +kernel
theorem d_D_init_295 : decode k_D_init 295 = .ok (.iconst 1, 1) := by decide +kernel
theorem d_D_init_296 : decode k_D_init 296 = .ok (.isub, 1) := by decide +kernel
theorem d_D_init_297 : decode k_D_init 297 = .ok (.iastore, 1) := by decide +kernel
theorem d_D_init_298 : decode k_D_init 298 = .ok (.aload_n 0, 1) := by decide +kernel
theorem d_D_init_299 : decode k_D_init 299 = .ok (.getfield 47, 3) := by decide +kernel
theorem d_D_init_302 : decode k_D_init 302 = .ok (.iconst 1, 1) := by decide +kernel
theorem d_D_init_303 : decode k_D_init 303 = .ok (.aload_n 0, 1) := by decide +kernel
theorem d_D_init_304 : decode k_D_init 304 = .ok (.getfield 87, 3) := by decide +kernel
theorem d_D_init_307 : decode k_D_init 307 = .ok (.iconst 1, 1) := by decide +kernel
theorem d_D_init_308 : decode k_D_init 308 = .ok (.isub, 1) := by decide +kernel
theorem d_D_init_309 : decode k_D_init 309 = .ok (.iastore, 1) := by decide +kernel
theorem d_D_init_310 : decode k_D_init 310 = .ok (.return_, 1) := by decide +kernel
theorem d_D_thrown_0 : decode k_D_thrown 0 = .ok (.aload_n 0, 1) := by decide +kernel
theorem d_D_thrown_1 : decode k_D_thrown 1 = .ok (.getfield 97, 3) := by decide +kernel
theorem d_D_thrown_4 : decode k_D_thrown 4 = .ok (.ireturn, 1) := by decide +kernel
theorem d_D_fail_0 : decode k_D_fail 0 = .ok (.aload_n 0, 1) := by decide +kernel
theorem d_D_fail_1 : decode k_D_fail 1 = .ok (.iload_n 1, 1) := by decide +kernel
theorem d_D_fail_2 : decode k_D_fail 2 = .ok (.putfield 97, 3) := by decide +kernel
theorem d_D_fail_5 : decode k_D_fail 5 = .ok (.iconst 0, 1) := by decide +kernel
theorem d_D_fail_6 : decode k_D_fail 6 = .ok (.ireturn, 1) := by decide +kernel
theorem d_D_within_0 : decode k_D_within 0 = .ok (.iload_n 0, 1) := by decide +kernel
theorem d_D_within_1 : decode k_D_within 1 = .ok (.iload_n 1, 1) := by decide +kernel
theorem d_D_within_2 : decode k_D_within 2 = .ok (.if_icmp .lt 12, 3) := by decide +kernel
theorem d_D_within_5 : decode k_D_within 5 = .ok (.iload_n 0, 1) := by decide +kernel
theorem d_D_within_6 : decode k_D_within 6 = .ok (.iload_n 2, 1) := by decide +kernel
theorem d_D_within_7 : decode k_D_within 7 = .ok (.if_icmp .gt 7, 3) := by decide +kernel
theorem d_D_within_10 : decode k_D_within 10 = .ok (.iconst 1, 1) := by decide +kernel
theorem d_D_within_11 : decode k_D_within 11 = .ok (.goto 4, 3) := by decide +kernel
theorem d_D_within_14 : decode k_D_within 14 = .ok (.iconst 0, 1) := by decide +kernel
theorem d_D_within_15 : decode k_D_within 15 = .ok (.ireturn, 1) := by decide +kernel
theorem d_D_clear_0 : decode k_D_clear 0 = .ok (.bipush 8, 2) := by decide +kernel
theorem d_D_clear_2 : decode k_D_clear 2 = .ok (.iload_n 1, 1) := by decide +kernel
theorem d_D_clear_3 : decode k_D_clear 3 = .ok (.imul, 1) := by decide +kernel
theorem d_D_clear_4 : decode k_D_clear 4 = .ok (.istore_n 2, 1) := by decide +kernel
theorem d_D_clear_5 : decode k_D_clear 5 = .ok (.iload_n 2, 1) := by decide +kernel
theorem d_D_clear_6 : decode k_D_clear 6 = .ok (.bipush 8, 2) := by decide +kernel
theorem d_D_clear_8 : decode k_D_clear 8 = .ok (.iload_n 1, 1) := by decide +kernel
theorem d_D_clear_9 : decode k_D_clear 9 = .ok (.imul, 1) := by decide +kernel
theorem d_D_clear_10 : decode k_D_clear 10 = .ok (.bipush 8, 2) := by decide +kernel
theorem d_D_clear_12 : decode k_D_clear 12 = .ok (.iadd, 1) := by decide +kernel
theorem d_D_clear_13 : decode k_D_clear 13 = .ok (.if_icmp .ge 48, 3) := by decide +kernel
theorem d_D_clear_16 : decode k_D_clear 16 = .ok (.aload_n 0, 1) := by decide +kernel
theorem d_D_clear_17 : decode k_D_clear 17 = .ok (.getfield 13, 3) := by decide +kernel
theorem d_D_clear_20 : decode k_D_clear 20 = .ok (.iload_n 2, 1) := by decide +kernel
theorem d_D_clear_21 : decode k_D_clear 21 = .ok (.iconst (-1), 1) := by decide +kernel
theorem d_D_clear_22 : decode k_D_clear 22 = .ok (.iastore, 1) := by decide +kernel
theorem d_D_clear_23 : decode k_D_clear 23 = .ok (.aload_n 0, 1) := by decide +kernel
theorem d_D_clear_24 : decode k_D_clear 24 = .ok (.getfield 16, 3) := by decide +kernel
theorem d_D_clear_27 : decode k_D_clear 27 = .ok (.iload_n 2, 1) := by decide +kernel
theorem d_D_clear_28 : decode k_D_clear 28 = .ok (.ldc 100, 2) := by decide +kernel
theorem d_D_clear_30 : decode k_D_clear 30 = .ok (.iastore, 1) := by decide +kernel
theorem d_D_clear_31 : decode k_D_clear 31 = .ok (.aload_n 0, 1) := by decide +kernel
theorem d_D_clear_32 : decode k_D_clear 32 = .ok (.getfield 19, 3) := by decide +kernel
theorem d_D_clear_35 : decode k_D_clear 35 = .ok (.iload_n 2, 1) := by decide +kernel
theorem d_D_clear_36 : decode k_D_clear 36 = .ok (.ldc 100, 2) := by decide +kernel
theorem d_D_clear_38 : decode k_D_clear 38 = .ok (.iastore, 1) := by decide +kernel
theorem d_D_clear_39 : decode k_D_clear 39 = .ok (.aload_n 0, 1) := by decide +kernel
theorem d_D_clear_40 : decode k_D_clear 40 = .ok (.getfield 22, 3) := by decide +kernel
theorem d_D_clear_43 : decode k_D_clear 43 = .ok (.iload_n 2, 1) := by decide +kernel
theorem d_D_clear_44 : decode k_D_clear 44 = .ok (.ldc 100, 2) := by decide +kernel
theorem d_D_clear_46 : decode k_D_clear 46 = .ok (.iastore, 1) := by decide +kernel
theorem d_D_clear_47 : decode k_D_clear 47 = .ok (.aload_n 0, 1) := by decide +kernel
theorem d_D_clear_48 : decode k_D_clear 48 = .ok (.getfield 25, 3) := by decide +kernel
theorem d_D_clear_51 : decode k_D_clear 51 = .ok (.iload_n 2, 1) := by decide +kernel
theorem d_D_clear_52 : decode k_D_clear 52 = .ok (.ldc 100, 2) := by decide +kernel
theorem d_D_clear_54 : decode k_D_clear 54 = .ok (.iastore, 1) := by decide +kernel
theorem d_D_clear_55 : decode k_D_clear 55 = .ok (.iinc 2 1, 3) := by decide +kernel
theorem d_D_clear_58 : decode k_D_clear 58 = .ok (.goto (-53), 3) := by decide +kernel
theorem d_D_clear_61 : decode k_D_clear 61 = .ok (.aload_n 0, 1) := by decide +kernel
theorem d_D_clear_62 : decode k_D_clear 62 = .ok (.getfield 28, 3) := by decide +kernel
theorem d_D_clear_65 : decode k_D_clear 65 = .ok (.iload_n 1, 1) := by decide +kernel
theorem d_D_clear_66 : decode k_D_clear 66 = .ok (.ldc 100, 2) := by decide +kernel
theorem d_D_clear_68 : decode k_D_clear 68 = .ok (.iastore, 1) := by decide +kernel
theorem d_D_clear_69 : decode k_D_clear 69 = .ok (.aload_n 0, 1) := by decide +kernel
theorem d_D_clear_70 : decode k_D_clear 70 = .ok (.getfield 31, 3) := by decide +kernel
theorem d_D_clear_73 : decode k_D_clear 73 = .ok (.iload_n 1, 1) := by decide +kernel
theorem d_D_clear_74 : decode k_D_clear 74 = .ok (.ldc 100, 2) := by decide +kernel
theorem d_D_clear_76 : decode k_D_clear 76 = .ok (.iastore, 1) := by decide +kernel
theorem d_D_clear_77 : decode k_D_clear 77 = .ok (.aload_n 0, 1) := by decide +kernel
theorem d_D_clear_78 : decode k_D_clear 78 = .ok (.getfield 34, 3) := by decide +kernel
theorem d_D_clear_81 : decode k_D_clear 81 = .ok (.iload_n 1, 1) := by decide +kernel
theorem d_D_clear_82 : decode k_D_clear 82 = .ok (.ldc 100, 2) := by decide +kernel
theorem d_D_clear_84 : decode k_D_clear 84 = .ok (.iastore, 1) := by decide +kernel
theorem d_D_clear_85 : decode k_D_clear 85 = .ok (.aload_n 0, 1) := by decide +kernel
theorem d_D_clear_86 : decode k_D_clear 86 = .ok (.getfield 40, 3) := by decide +kernel
theorem d_D_clear_89 : decode k_D_clear 89 = .ok (.iload_n 1, 1) := by decide +kernel
theorem d_D_clear_90 : decode k_D_clear 90 = .ok (.iconst (-1), 1) := by decide +kernel
theorem d_D_clear_91 : decode k_D_clear 91 = .ok (.iastore, 1) := by decide +kernel
theorem d_D_clear_92 : decode k_D_clear 92 = .ok (.iconst 0, 1) := by decide +kernel
theorem d_D_clear_93 : decode k_D_clear 93 = .ok (.istore_n 2, 1) := by decide +kernel
theorem d_D_clear_94 : decode k_D_clear 94 = .ok (.iload_n 2, 1) := by decide +kernel
theorem d_D_clear_95 : decode k_D_clear 95 = .ok (.iconst 4, 1) := by decide +kernel
theorem d_D_clear_96 : decode k_D_clear 96 = .ok (.if_icmp .ge 21, 3) := by decide +kernel
theorem d_D_clear_99 : decode k_D_clear 99 = .ok (.aload_n 0, 1) := by decide +kernel
theorem d_D_clear_100 : decode k_D_clear 100 = .ok (.getfield 37, 3) := by decide +kernel
theorem d_D_clear_103 : decode k_D_clear 103 = .ok (.iconst 4, 1) := by decide +kernel
theorem d_D_clear_104 : decode k_D_clear 104 = .ok (.iload_n 1, 1) := by decide +kernel
theorem d_D_clear_105 : decode k_D_clear 105 = .ok (.imul, 1) := by decide +kernel
theorem d_D_clear_106 : decode k_D_clear 106 = .ok (.iload_n 2, 1) := by decide +kernel
theorem d_D_clear_107 : decode k_D_clear 107 = .ok (.iadd, 1) := by decide +kernel
theorem d_D_clear_108 : decode k_D_clear 108 = .ok (.ldc 100, 2) := by decide +kernel
theorem d_D_clear_110 : decode k_D_clear 110 = .ok (.iastore, 1) := by decide +kernel
theorem d_D_clear_111 : decode k_D_clear 111 = .ok (.iinc 2 1, 3) := by decide +kernel
theorem d_D_clear_114 : decode k_D_clear 114 = .ok (.goto (-20), 3) := by decide +kernel
theorem d_D_clear_117 : decode k_D_clear 117 = .ok (.return_, 1) := by decide +kernel
theorem d_D_isAddress_0 : decode k_D_isAddress 0 = .ok (.iload_n 1, 1) := by decide +kernel
theorem d_D_isAddress_1 : decode k_D_isAddress 1 = .ok (.iconst 0, 1) := by decide +kernel
theorem d_D_isAddress_2 : decode k_D_isAddress 2 = .ok (.ldc 101, 2) := by decide +kernel
theorem d_D_isAddress_4 : decode k_D_isAddress 4 = .ok (.invokestatic 102, 3) := by decide +kernel
theorem d_D_isAddress_7 : decode k_D_isAddress 7 = .ok (.ireturn, 1) := by decide +kernel
theorem d_D_channelOf_0 : decode k_D_channelOf 0 = .ok (.iload_n 1, 1) := by decide +kernel
theorem d_D_channelOf_1 : decode k_D_channelOf 1 = .ok (.iconst 4, 1) := by decide +kernel
theorem d_D_channelOf_2 : decode k_D_channelOf 2 = .ok (.ishr, 1) := by decide +kernel
theorem d_D_channelOf_3 : decode k_D_channelOf 3 = .ok (.aload_n 0, 1) := by decide +kernel
theorem d_D_channelOf_4 : decode k_D_channelOf 4 = .ok (.getfield 80, 3) := by decide +kernel
theorem d_D_channelOf_7 : decode k_D_channelOf 7 = .ok (.iconst 1, 1) := by decide +kernel
theorem d_D_channelOf_8 : decode k_D_channelOf 8 = .ok (.isub, 1) := by decide +kernel
theorem d_D_channelOf_9 : decode k_D_channelOf 9 = .ok (.iand, 1) := by decide +kernel
theorem d_D_channelOf_10 : decode k_D_channelOf 10 = .ok (.ireturn, 1) := by decide +kernel
theorem d_D_bankOf_0 : decode k_D_bankOf 0 = .ok (.iload_n 1, 1) := by decide +kernel
theorem d_D_bankOf_1 : decode k_D_bankOf 1 = .ok (.iconst 3, 1) := by decide +kernel
theorem d_D_bankOf_2 : decode k_D_bankOf 2 = .ok (.aload_n 0, 1) := by decide +kernel
theorem d_D_bankOf_3 : decode k_D_bankOf 3 = .ok (.getfield 80, 3) := by decide +kernel
theorem d_D_bankOf_6 : decode k_D_bankOf 6 = .ok (.iadd, 1) := by decide +kernel
theorem d_D_bankOf_7 : decode k_D_bankOf 7 = .ok (.ishr, 1) := by decide +kernel
theorem d_D_bankOf_8 : decode k_D_bankOf 8 = .ok (.aload_n 0, 1) := by decide +kernel
theorem d_D_bankOf_9 : decode k_D_bankOf 9 = .ok (.getfield 87, 3) := by decide +kernel
theorem d_D_bankOf_12 : decode k_D_bankOf 12 = .ok (.iconst 1, 1) := by decide +kernel
theorem d_D_bankOf_13 : decode k_D_bankOf 13 = .ok (.isub, 1) := by decide +kernel
theorem d_D_bankOf_14 : decode k_D_bankOf 14 = .ok (.iand, 1) := by decide +kernel
theorem d_D_bankOf_15 : decode k_D_bankOf 15 = .ok (.ireturn, 1) := by decide +kernel
theorem d_D_rowOf_0 : decode k_D_rowOf 0 = .ok (.iload_n 1, 1) := by decide +kernel
theorem d_D_rowOf_1 : decode k_D_rowOf 1 = .ok (.iconst 3, 1) := by decide +kernel
theorem d_D_rowOf_2 : decode k_D_rowOf 2 = .ok (.aload_n 0, 1) := by decide +kernel
theorem d_D_rowOf_3 : decode k_D_rowOf 3 = .ok (.getfield 80, 3) := by decide +kernel
theorem d_D_rowOf_6 : decode k_D_rowOf 6 = .ok (.iadd, 1) := by decide +kernel
theorem d_D_rowOf_7 : decode k_D_rowOf 7 = .ok (.aload_n 0, 1) := by decide +kernel
theorem d_D_rowOf_8 : decode k_D_rowOf 8 = .ok (.getfield 84, 3) := by decide +kernel
theorem d_D_rowOf_11 : decode k_D_rowOf 11 = .ok (.iadd, 1) := by decide +kernel
theorem d_D_rowOf_12 : decode k_D_rowOf 12 = .ok (.ishr, 1) := by decide +kernel
theorem d_D_rowOf_13 : decode k_D_rowOf 13 = .ok (.ireturn, 1) := by decide +kernel
theorem d_D_part_0 : decode k_D_part 0 = .ok (.aload_n 0, 1) := by decide +kernel
theorem d_D_part_1 : decode k_D_part 1 = .ok (.iconst 0, 1) := by decide +kernel
theorem d_D_part_2 : decode k_D_part 2 = .ok (.putfield 97, 3) := by decide +kernel
theorem d_D_part_5 : decode k_D_part 5 = .ok (.aload_n 0, 1) := by decide +kernel
theorem d_D_part_6 : decode k_D_part 6 = .ok (.iload_n 1, 1) := by decide +kernel
theorem d_D_part_7 : decode k_D_part 7 = .ok (.invokevirtual 106, 3) := by decide +kernel
theorem d_D_part_10 : decode k_D_part 10 = .ok (.ifCond .eq 12, 3) := by decide +kernel
theorem d_D_part_13 : decode k_D_part 13 = .ok (.iload_n 2, 1) := by decide +kernel
theorem d_D_part_14 : decode k_D_part 14 = .ok (.iconst 0, 1) := by decide +kernel
theorem d_D_part_15 : decode k_D_part 15 = .ok (.iconst 3, 1) := by decide +kernel
theorem d_D_part_16 : decode k_D_part 16 = .ok (.invokestatic 102, 3) := by decide +kernel
theorem d_D_part_19 : decode k_D_part 19 = .ok (.ifCond .ne 9, 3) := by decide +kernel
theorem d_D_part_22 : decode k_D_part 22 = .ok (.aload_n 0, 1) := by decide +kernel
theorem d_D_part_23 : decode k_D_part 23 = .ok (.iconst 1, 1) := by decide +kernel
theorem d_D_part_24 : decode k_D_part 24 = .ok (.invokevirtual 110, 3) := by decide +kernel
theorem d_D_part_27 : decode k_D_part 27 = .ok (.ireturn, 1) := by decide +kernel
theorem d_D_part_28 : decode k_D_part 28 = .ok (.iload_n 2, 1) := by decide +kernel
theorem d_D_part_29 : decode k_D_part 29 = .ok (.ifCond .ne 11, 3) := by decide +kernel
theorem d_D_part_32 : decode k_D_part 32 = .ok (.aload_n 0, 1) := by decide +kernel
theorem d_D_part_33 : decode k_D_part 33 = .ok (.iload_n 1, 1) := by decide +kernel
theorem d_D_part_34 : decode k_D_part 34 = .ok (.invokevirtual 114, 3) := by decide +kernel
theorem d_D_part_37 : decode k_D_part 37 = .ok (.goto 33, 3) := by decide +kernel
theorem d_D_part_40 : decode k_D_part 40 = .ok (.iload_n 2, 1) := by decide +kernel
theorem d_D_part_41 : decode k_D_part 41 = .ok (.iconst 1, 1) := by decide +kernel
theorem d_D_part_42 : decode k_D_part 42 = .ok (.if_icmp .ne 11, 3) := by decide +kernel
theorem d_D_part_45 : decode k_D_part 45 = .ok (.aload_n 0, 1) := by decide +kernel
theorem d_D_part_46 : decode k_D_part 46 = .ok (.iload_n 1, 1) := by decide +kernel
theorem d_D_part_47 : decode k_D_part 47 = .ok (.invokevirtual 117, 3) := by decide +kernel
theorem d_D_part_50 : decode k_D_part 50 = .ok (.goto 20, 3) := by decide +kernel
theorem d_D_part_53 : decode k_D_part 53 = .ok (.iload_n 2, 1) := by decide +kernel
theorem d_D_part_54 : decode k_D_part 54 = .ok (.iconst 2, 1) := by decide +kernel
theorem d_D_part_55 : decode k_D_part 55 = .ok (.if_icmp .ne 11, 3) := by decide +kernel
theorem d_D_part_58 : decode k_D_part 58 = .ok (.aload_n 0, 1) := by decide +kernel
theorem d_D_part_59 : decode k_D_part 59 = .ok (.iload_n 1, 1) := by decide +kernel
theorem d_D_part_60 : decode k_D_part 60 = .ok (.invokevirtual 120, 3) := by decide +kernel
theorem d_D_part_63 : decode k_D_part 63 = .ok (.goto 7, 3) := by decide +kernel
theorem d_D_part_66 : decode k_D_part 66 = .ok (.iload_n 1, 1) := by decide +kernel
theorem d_D_part_67 : decode k_D_part 67 = .ok (.bipush 15, 2) := by decide +kernel
theorem d_D_part_69 : decode k_D_part 69 = .ok (.iand, 1) := by decide +kernel
theorem d_D_part_70 : decode k_D_part 70 = .ok (.ireturn, 1) := by decide +kernel
theorem d_D_anyOpen_0 : decode k_D_anyOpen 0 = .ok (.iconst 0, 1) := by decide +kernel
theorem d_D_anyOpen_1 : decode k_D_anyOpen 1 = .ok (.istore_n 2, 1) := by decide +kernel
theorem d_D_anyOpen_2 : decode k_D_anyOpen 2 = .ok (.bipush 8, 2) := by decide +kernel
theorem d_D_anyOpen_4 : decode k_D_anyOpen 4 = .ok (.iload_n 1, 1) := by decide +kernel
theorem d_D_anyOpen_5 : decode k_D_anyOpen 5 = .ok (.imul, 1) := by decide +kernel
theorem d_D_anyOpen_6 : decode k_D_anyOpen 6 = .ok (.istore_n 3, 1) := by decide +kernel
theorem d_D_anyOpen_7 : decode k_D_anyOpen 7 = .ok (.iload_n 3, 1) := by decide +kernel
theorem d_D_anyOpen_8 : decode k_D_anyOpen 8 = .ok (.bipush 8, 2) := by decide +kernel
theorem d_D_anyOpen_10 : decode k_D_anyOpen 10 = .ok (.iload_n 1, 1) := by decide +kernel
theorem d_D_anyOpen_11 : decode k_D_anyOpen 11 = .ok (.imul, 1) := by decide +kernel
theorem d_D_anyOpen_12 : decode k_D_anyOpen 12 = .ok (.aload_n 0, 1) := by decide +kernel
theorem d_D_anyOpen_13 : decode k_D_anyOpen 13 = .ok (.getfield 87, 3) := by decide +kernel
theorem d_D_anyOpen_16 : decode k_D_anyOpen 16 = .ok (.iadd, 1) := by decide +kernel
theorem d_D_anyOpen_17 : decode k_D_anyOpen 17 = .ok (.if_icmp .ge 28, 3) := by decide +kernel
theorem d_D_anyOpen_20 : decode k_D_anyOpen 20 = .ok (.iload_n 2, 1) := by decide +kernel
theorem d_D_anyOpen_21 : decode k_D_anyOpen 21 = .ok (.ifCond .ne 12, 3) := by decide +kernel
theorem d_D_anyOpen_24 : decode k_D_anyOpen 24 = .ok (.aload_n 0, 1) := by decide +kernel
theorem d_D_anyOpen_25 : decode k_D_anyOpen 25 = .ok (.getfield 13, 3) := by decide +kernel
theorem d_D_anyOpen_28 : decode k_D_anyOpen 28 = .ok (.iload_n 3, 1) := by decide +kernel
theorem d_D_anyOpen_29 : decode k_D_anyOpen 29 = .ok (.iaload, 1) := by decide +kernel
theorem d_D_anyOpen_30 : decode k_D_anyOpen 30 = .ok (.ifCond .lt 7, 3) := by decide +kernel
theorem d_D_anyOpen_33 : decode k_D_anyOpen 33 = .ok (.iconst 1, 1) := by decide +kernel
theorem d_D_anyOpen_34 : decode k_D_anyOpen 34 = .ok (.goto 4, 3) := by decide +kernel
theorem d_D_anyOpen_37 : decode k_D_anyOpen 37 = .ok (.iconst 0, 1) := by decide +kernel
theorem d_D_anyOpen_38 : decode k_D_anyOpen 38 = .ok (.istore_n 2, 1) := by decide +kernel
theorem d_D_anyOpen_39 : decode k_D_anyOpen 39 = .ok (.iinc 3 1, 3) := by decide +kernel
theorem d_D_anyOpen_42 : decode k_D_anyOpen 42 = .ok (.goto (-35), 3) := by decide +kernel
theorem d_D_anyOpen_45 : decode k_D_anyOpen 45 = .ok (.iload_n 2, 1) := by decide +kernel
theorem d_D_anyOpen_46 : decode k_D_anyOpen 46 = .ok (.ireturn, 1) := by decide +kernel
theorem d_D_fits_0 : decode k_D_fits 0 = .ok (.bipush 8, 2) := by decide +kernel
theorem d_D_fits_2 : decode k_D_fits 2 = .ok (.iload_n 1, 1) := by decide +kernel
theorem d_D_fits_3 : decode k_D_fits 3 = .ok (.imul, 1) := by decide +kernel
theorem d_D_fits_4 : decode k_D_fits 4 = .ok (.iload_n 3, 1) := by decide +kernel
theorem d_D_fits_5 : decode k_D_fits 5 = .ok (.iadd, 1) := by decide +kernel
theorem d_D_fits_6 : decode k_D_fits 6 = .ok (.istore 5, 2) := by decide +kernel
theorem d_D_fits_8 : decode k_D_fits 8 = .ok (.iload_n 2, 1) := by decide +kernel
theorem d_D_fits_9 : decode k_D_fits 9 = .ok (.ifCond .ne 19, 3) := by decide +kernel
theorem d_D_fits_12 : decode k_D_fits 12 = .ok (.aload_n 0, 1) := by decide +kernel
theorem d_D_fits_13 : decode k_D_fits 13 = .ok (.getfield 13, 3) := by decide +kernel
theorem d_D_fits_16 : decode k_D_fits 16 = .ok (.iload 5, 2) := by decide +kernel
theorem d_D_fits_18 : decode k_D_fits 18 = .ok (.iaload, 1) := by decide +kernel
theorem d_D_fits_19 : decode k_D_fits 19 = .ok (.ifCond .ge 7, 3) := by decide +kernel
theorem d_D_fits_22 : decode k_D_fits 22 = .ok (.iconst 1, 1) := by decide +kernel
theorem d_D_fits_23 : decode k_D_fits 23 = .ok (.goto 4, 3) := by decide +kernel
theorem d_D_fits_26 : decode k_D_fits 26 = .ok (.iconst 0, 1) := by decide +kernel
theorem d_D_fits_27 : decode k_D_fits 27 = .ok (.ireturn, 1) := by decide +kernel
theorem d_D_fits_28 : decode k_D_fits 28 = .ok (.iload_n 2, 1) := by decide +kernel
theorem d_D_fits_29 : decode k_D_fits 29 = .ok (.iconst 4, 1) := by decide +kernel
theorem d_D_fits_30 : decode k_D_fits 30 = .ok (.if_icmp .ne 17, 3) := by decide +kernel
theorem d_D_fits_33 : decode k_D_fits 33 = .ok (.aload_n 0, 1) := by decide +kernel
theorem d_D_fits_34 : decode k_D_fits 34 = .ok (.iload_n 1, 1) := by decide +kernel
theorem d_D_fits_35 : decode k_D_fits 35 = .ok (.invokevirtual 123, 3) := by decide +kernel
theorem d_D_fits_38 : decode k_D_fits 38 = .ok (.ifCond .ne 7, 3) := by decide +kernel
theorem d_D_fits_41 : decode k_D_fits 41 = .ok (.iconst 1, 1) := by decide +kernel
theorem d_D_fits_42 : decode k_D_fits 42 = .ok (.goto 4, 3) := by decide +kernel
theorem d_D_fits_45 : decode k_D_fits 45 = .ok (.iconst 0, 1) := by decide +kernel
theorem d_D_fits_46 : decode k_D_fits 46 = .ok (.ireturn, 1) := by decide +kernel
theorem d_D_fits_47 : decode k_D_fits 47 = .ok (.aload_n 0, 1) := by decide +kernel
theorem d_D_fits_48 : decode k_D_fits 48 = .ok (.getfield 13, 3) := by decide +kernel
theorem d_D_fits_51 : decode k_D_fits 51 = .ok (.iload 5, 2) := by decide +kernel
theorem d_D_fits_53 : decode k_D_fits 53 = .ok (.iaload, 1) := by decide +kernel
theorem d_D_fits_54 : decode k_D_fits 54 = .ok (.ifCond .lt 24, 3) := by decide +kernel
theorem d_D_fits_57 : decode k_D_fits 57 = .ok (.iload_n 2, 1) := by decide +kernel
theorem d_D_fits_58 : decode k_D_fits 58 = .ok (.iconst 3, 1) := by decide +kernel
theorem d_D_fits_59 : decode k_D_fits 59 = .ok (.if_icmp .eq 15, 3) := by decide +kernel
theorem d_D_fits_62 : decode k_D_fits 62 = .ok (.aload_n 0, 1) := by decide +kernel
theorem d_D_fits_63 : decode k_D_fits 63 = .ok (.getfield 13, 3) := by decide +kernel
theorem d_D_fits_66 : decode k_D_fits 66 = .ok (.iload 5, 2) := by decide +kernel
theorem d_D_fits_68 : decode k_D_fits 68 = .ok (.iaload, 1) := by decide +kernel
theorem d_D_fits_69 : decode k_D_fits 69 = .ok (.iload 4, 2) := by decide +kernel
theorem d_D_fits_71 : decode k_D_fits 71 = .ok (.if_icmp .ne 7, 3) := by decide +kernel
theorem d_D_fits_74 : decode k_D_fits 74 = .ok (.iconst 1, 1) := by decide +kernel
theorem d_D_fits_75 : decode k_D_fits 75 = .ok (.goto 4, 3) := by decide +kernel
theorem d_D_fits_78 : decode k_D_fits 78 = .ok (.iconst 0, 1) := by decide +kernel
theorem d_D_fits_79 : decode k_D_fits 79 = .ok (.ireturn, 1) := by decide +kernel
theorem d_D_since_0 : decode k_D_since 0 = .ok (.bipush 8, 2) := by decide +kernel
theorem d_D_since_2 : decode k_D_since 2 = .ok (.iload_n 2, 1) := by decide +kernel
theorem d_D_since_3 : decode k_D_since 3 = .ok (.imul, 1) := by decide +kernel
theorem d_D_since_4 : decode k_D_since 4 = .ok (.iload 4, 2) := by decide +kernel
theorem d_D_since_6 : decode k_D_since 6 = .ok (.iadd, 1) := by decide +kernel
theorem d_D_since_7 : decode k_D_since 7 = .ok (.istore 5, 2) := by decide +kernel
theorem d_D_since_9 : decode k_D_since 9 = .ok (.iload_n 3, 1) := by decide +kernel
theorem d_D_since_10 : decode k_D_since 10 = .ok (.iconst 1, 1) := by decide +kernel
theorem d_D_since_11 : decode k_D_since 11 = .ok (.if_icmp .eq 8, 3) := by decide +kernel
theorem d_D_since_14 : decode k_D_since 14 = .ok (.iload_n 3, 1) := by decide +kernel
theorem d_D_since_15 : decode k_D_since 15 = .ok (.iconst 2, 1) := by decide +kernel
theorem d_D_since_16 : decode k_D_since 16 = .ok (.if_icmp .ne 7, 3) := by decide +kernel
theorem d_D_since_19 : decode k_D_since 19 = .ok (.iconst 1, 1) := by decide +kernel
theorem d_D_since_20 : decode k_D_since 20 = .ok (.goto 4, 3) := by decide +kernel
theorem d_D_since_23 : decode k_D_since 23 = .ok (.iconst 0, 1) := by decide +kernel
theorem d_D_since_24 : decode k_D_since 24 = .ok (.istore 6, 2) := by decide +kernel
theorem d_D_since_26 : decode k_D_since 26 = .ok (.iload_n 1, 1) := by decide +kernel
theorem d_D_since_27 : decode k_D_since 27 = .ok (.tableswitch 190 0 7 #[45, 63, 80, 98, 130, 147, 165, 183], 45) := by decide +kernel
theorem d_D_since_72 : decode k_D_since 72 = .ok (.iload 6, 2) := by decide +kernel
theorem d_D_since_74 : decode k_D_since 74 = .ok (.ifCond .eq 13, 3) := by decide +kernel
theorem d_D_since_77 : decode k_D_since 77 = .ok (.aload_n 0, 1) := by decide +kernel
theorem d_D_since_78 : decode k_D_since 78 = .ok (.getfield 16, 3) := by decide +kernel
theorem d_D_since_81 : decode k_D_since 81 = .ok (.iload 5, 2) := by decide +kernel
theorem d_D_since_83 : decode k_D_since 83 = .ok (.iaload, 1) := by decide +kernel
theorem d_D_since_84 : decode k_D_since 84 = .ok (.goto 5, 3) := by decide +kernel
theorem d_D_since_87 : decode k_D_since 87 = .ok (.ldc 100, 2) := by decide +kernel
theorem d_D_since_89 : decode k_D_since 89 = .ok (.ireturn, 1) := by decide +kernel
theorem d_D_since_90 : decode k_D_since 90 = .ok (.iload_n 3, 1) := by decide +kernel
theorem d_D_since_91 : decode k_D_since 91 = .ok (.ifCond .ne 13, 3) := by decide +kernel
theorem d_D_since_94 : decode k_D_since 94 = .ok (.aload_n 0, 1) := by decide +kernel
theorem d_D_since_95 : decode k_D_since 95 = .ok (.getfield 19, 3) := by decide +kernel
theorem d_D_since_98 : decode k_D_since 98 = .ok (.iload 5, 2) := by decide +kernel
theorem d_D_since_100 : decode k_D_since 100 = .ok (.iaload, 1) := by decide +kernel
theorem d_D_since_101 : decode k_D_since 101 = .ok (.goto 5, 3) := by decide +kernel
theorem d_D_since_104 : decode k_D_since 104 = .ok (.ldc 100, 2) := by decide +kernel
theorem d_D_since_106 : decode k_D_since 106 = .ok (.ireturn, 1) := by decide +kernel
theorem d_D_since_107 : decode k_D_since 107 = .ok (.iload_n 3, 1) := by decide +kernel
theorem d_D_since_108 : decode k_D_since 108 = .ok (.iconst 3, 1) := by decide +kernel
theorem d_D_since_109 : decode k_D_since 109 = .ok (.if_icmp .ne 13, 3) := by decide +kernel
theorem d_D_since_112 : decode k_D_since 112 = .ok (.aload_n 0, 1) := by decide +kernel
theorem d_D_since_113 : decode k_D_since 113 = .ok (.getfield 16, 3) := by decide +kernel
theorem d_D_since_116 : decode k_D_since 116 = .ok (.iload 5, 2) := by decide +kernel
theorem d_D_since_118 : decode k_D_since 118 = .ok (.iaload, 1) := by decide +kernel
theorem d_D_since_119 : decode k_D_since 119 = .ok (.goto 5, 3) := by decide +kernel
theorem d_D_since_122 : decode k_D_since 122 = .ok (.ldc 100, 2) := by decide +kernel
theorem d_D_since_124 : decode k_D_since 124 = .ok (.ireturn, 1) := by decide +kernel
theorem d_D_since_125 : decode k_D_since 125 = .ok (.iload 6, 2) := by decide +kernel
theorem d_D_since_127 : decode k_D_since 127 = .ok (.ifCond .eq 12, 3) := by decide +kernel
theorem d_D_since_130 : decode k_D_since 130 = .ok (.aload_n 0, 1) := by decide +kernel
theorem d_D_since_131 : decode k_D_since 131 = .ok (.getfield 31, 3) := by decide +kernel
theorem d_D_since_134 : decode k_D_since 134 = .ok (.iload_n 2, 1) := by decide +kernel
theorem d_D_since_135 : decode k_D_since 135 = .ok (.iaload, 1) := by decide +kernel
theorem d_D_since_136 : decode k_D_since 136 = .ok (.goto 20, 3) := by decide +kernel
theorem d_D_since_139 : decode k_D_since 139 = .ok (.iload_n 3, 1) := by decide +kernel
theorem d_D_since_140 : decode k_D_since 140 = .ok (.iconst 3, 1) := by decide +kernel
theorem d_D_since_141 : decode k_D_since 141 = .ok (.if_icmp .ne 13, 3) := by decide +kernel
theorem d_D_since_144 : decode k_D_since 144 = .ok (.aload_n 0, 1) := by decide +kernel
theorem d_D_since_145 : decode k_D_since 145 = .ok (.getfield 22, 3) := by decide +kernel
theorem d_D_since_148 : decode k_D_since 148 = .ok (.iload 5, 2) := by decide +kernel
theorem d_D_since_150 : decode k_D_since 150 = .ok (.iaload, 1) := by decide +kernel
theorem d_D_since_151 : decode k_D_since 151 = .ok (.goto 5, 3) := by decide +kernel
theorem d_D_since_154 : decode k_D_since 154 = .ok (.ldc 100, 2) := by decide +kernel
theorem d_D_since_156 : decode k_D_since 156 = .ok (.ireturn, 1) := by decide +kernel
theorem d_D_since_157 : decode k_D_since 157 = .ok (.iload_n 3, 1) := by decide +kernel
theorem d_D_since_158 : decode k_D_since 158 = .ok (.iconst 1, 1) := by decide +kernel
theorem d_D_since_159 : decode k_D_since 159 = .ok (.if_icmp .ne 12, 3) := by decide +kernel
theorem d_D_since_162 : decode k_D_since 162 = .ok (.aload_n 0, 1) := by decide +kernel
theorem d_D_since_163 : decode k_D_since 163 = .ok (.getfield 28, 3) := by decide +kernel
theorem d_D_since_166 : decode k_D_since 166 = .ok (.iload_n 2, 1) := by decide +kernel
theorem d_D_since_167 : decode k_D_since 167 = .ok (.iaload, 1) := by decide +kernel
theorem d_D_since_168 : decode k_D_since 168 = .ok (.goto 5, 3) := by decide +kernel
theorem d_D_since_171 : decode k_D_since 171 = .ok (.ldc 100, 2) := by decide +kernel
theorem d_D_since_173 : decode k_D_since 173 = .ok (.ireturn, 1) := by decide +kernel
theorem d_D_since_174 : decode k_D_since 174 = .ok (.iload_n 3, 1) := by decide +kernel
theorem d_D_since_175 : decode k_D_since 175 = .ok (.iconst 3, 1) := by decide +kernel
theorem d_D_since_176 : decode k_D_since 176 = .ok (.if_icmp .ne 13, 3) := by decide +kernel
theorem d_D_since_179 : decode k_D_since 179 = .ok (.aload_n 0, 1) := by decide +kernel
theorem d_D_since_180 : decode k_D_since 180 = .ok (.getfield 25, 3) := by decide +kernel
theorem d_D_since_183 : decode k_D_since 183 = .ok (.iload 5, 2) := by decide +kernel
theorem d_D_since_185 : decode k_D_since 185 = .ok (.iaload, 1) := by decide +kernel
theorem d_D_since_186 : decode k_D_since 186 = .ok (.goto 5, 3) := by decide +kernel
theorem d_D_since_189 : decode k_D_since 189 = .ok (.ldc 100, 2) := by decide +kernel
theorem d_D_since_191 : decode k_D_since 191 = .ok (.ireturn, 1) := by decide +kernel
theorem d_D_since_192 : decode k_D_since 192 = .ok (.iload_n 3, 1) := by decide +kernel
theorem d_D_since_193 : decode k_D_since 193 = .ok (.ifCond .ne 14, 3) := by decide +kernel
theorem d_D_since_196 : decode k_D_since 196 = .ok (.aload_n 0, 1) := by decide +kernel
theorem d_D_since_197 : decode k_D_since 197 = .ok (.getfield 37, 3) := by decide +kernel
theorem d_D_since_200 : decode k_D_since 200 = .ok (.iconst 4, 1) := by decide +kernel
theorem d_D_since_201 : decode k_D_since 201 = .ok (.iload_n 2, 1) := by decide +kernel
theorem d_D_since_202 : decode k_D_since 202 = .ok (.imul, 1) := by decide +kernel
theorem d_D_since_203 : decode k_D_since 203 = .ok (.iaload, 1) := by decide +kernel
theorem d_D_since_204 : decode k_D_since 204 = .ok (.goto 5, 3) := by decide +kernel
theorem d_D_since_207 : decode k_D_since 207 = .ok (.ldc 100, 2) := by decide +kernel
theorem d_D_since_209 : decode k_D_since 209 = .ok (.ireturn, 1) := by decide +kernel
theorem d_D_since_210 : decode k_D_since 210 = .ok (.aload_n 0, 1) := by decide +kernel
theorem d_D_since_211 : decode k_D_since 211 = .ok (.getfield 34, 3) := by decide +kernel
theorem d_D_since_214 : decode k_D_since 214 = .ok (.iload_n 2, 1) := by decide +kernel
theorem d_D_since_215 : decode k_D_since 215 = .ok (.iaload, 1) := by decide +kernel
theorem d_D_since_216 : decode k_D_since 216 = .ok (.ireturn, 1) := by decide +kernel
theorem d_D_since_217 : decode k_D_since 217 = .ok (.iload_n 3, 1) := by decide +kernel
theorem d_D_since_218 : decode k_D_since 218 = .ok (.ifCond .ne 16, 3) := by decide +kernel
theorem d_D_since_221 : decode k_D_since 221 = .ok (.aload_n 0, 1) := by decide +kernel
theorem d_D_since_222 : decode k_D_since 222 = .ok (.getfield 37, 3) := by decide +kernel
theorem d_D_since_225 : decode k_D_since 225 = .ok (.iconst 4, 1) := by decide +kernel
theorem d_D_since_226 : decode k_D_since 226 = .ok (.iload_n 2, 1) := by decide +kernel
theorem d_D_since_227 : decode k_D_since 227 = .ok (.imul, 1) := by decide +kernel
theorem d_D_since_228 : decode k_D_since 228 = .ok (.iconst 3, 1) := by decide +kernel
theorem d_D_since_229 : decode k_D_since 229 = .ok (.iadd, 1) := by decide +kernel
theorem d_D_since_230 : decode k_D_since 230 = .ok (.iaload, 1) := by decide +kernel
theorem d_D_since_231 : decode k_D_since 231 = .ok (.goto 5, 3) := by decide +kernel
theorem d_D_since_234 : decode k_D_since 234 = .ok (.ldc 100, 2) := by decide +kernel
theorem d_D_since_236 : decode k_D_since 236 = .ok (.ireturn, 1) := by decide +kernel
theorem d_D_broken_0 : decode k_D_broken 0 = .ok (.iconst 0, 1) := by decide +kernel
theorem d_D_broken_1 : decode k_D_broken 1 = .ok (.istore 5, 2) := by decide +kernel
theorem d_D_broken_3 : decode k_D_broken 3 = .ok (.iload 5, 2) := by decide +kernel
theorem d_D_broken_5 : decode k_D_broken 5 = .ok (.bipush 9, 2) := by decide +kernel
theorem d_D_broken_7 : decode k_D_broken 7 = .ok (.if_icmp .ge 38, 3) := by decide +kernel
theorem d_D_broken_10 : decode k_D_broken 10 = .ok (.iload 4, 2) := by decide +kernel
theorem d_D_broken_12 : decode k_D_broken 12 = .ok (.i2l, 1) := by decide +kernel
theorem d_D_broken_13 : decode k_D_broken 13 = .ok (.aload_n 0, 1) := by decide +kernel
theorem d_D_broken_14 : decode k_D_broken 14 = .ok (.iload 5, 2) := by decide +kernel
theorem d_D_broken_16 : decode k_D_broken 16 = .ok (.iload_n 1, 1) := by decide +kernel
theorem d_D_broken_17 : decode k_D_broken 17 = .ok (.iload_n 2, 1) := by decide +kernel
theorem d_D_broken_18 : decode k_D_broken 18 = .ok (.iload_n 3, 1) := by decide +kernel
theorem d_D_broken_19 : decode k_D_broken 19 = .ok (.invokevirtual 126, 3) := by decide +kernel
theorem d_D_broken_22 : decode k_D_broken 22 = .ok (.i2l, 1) := by decide +kernel
theorem d_D_broken_23 : decode k_D_broken 23 = .ok (.lsub, 1) := by decide +kernel
theorem d_D_broken_24 : decode k_D_broken 24 = .ok (.aload_n 0, 1) := by decide +kernel
theorem d_D_broken_25 : decode k_D_broken 25 = .ok (.getfield 7, 3) := by decide +kernel
theorem d_D_broken_28 : decode k_D_broken 28 = .ok (.iload 5, 2) := by decide +kernel
theorem d_D_broken_30 : decode k_D_broken 30 = .ok (.iaload, 1) := by decide +kernel
theorem d_D_broken_31 : decode k_D_broken 31 = .ok (.i2l, 1) := by decide +kernel
theorem d_D_broken_32 : decode k_D_broken 32 = .ok (.lcmp, 1) := by decide +kernel
theorem d_D_broken_33 : decode k_D_broken 33 = .ok (.ifCond .ge 6, 3) := by decide +kernel
theorem d_D_broken_36 : decode k_D_broken 36 = .ok (.iload 5, 2) := by decide +kernel
theorem d_D_broken_38 : decode k_D_broken 38 = .ok (.ireturn, 1) := by decide +kernel
theorem d_D_broken_39 : decode k_D_broken 39 = .ok (.iinc 5 1, 3) := by decide +kernel
theorem d_D_broken_42 : decode k_D_broken 42 = .ok (.goto (-39), 3) := by decide +kernel
theorem d_D_broken_45 : decode k_D_broken 45 = .ok (.iconst (-1), 1) := by decide +kernel
theorem d_D_broken_46 : decode k_D_broken 46 = .ok (.ireturn, 1) := by decide +kernel
theorem d_D_note_0 : decode k_D_note 0 = .ok (.bipush 8, 2) := by decide +kernel
theorem d_D_note_2 : decode k_D_note 2 = .ok (.iload_n 1, 1) := by decide +kernel
theorem d_D_note_3 : decode k_D_note 3 = .ok (.imul, 1) := by decide +kernel
theorem d_D_note_4 : decode k_D_note 4 = .ok (.iload_n 3, 1) := by decide +kernel
theorem d_D_note_5 : decode k_D_note 5 = .ok (.iadd, 1) := by decide +kernel
theorem d_D_note_6 : decode k_D_note 6 = .ok (.istore 6, 2) := by decide +kernel
theorem d_D_note_8 : decode k_D_note 8 = .ok (.iload_n 2, 1) := by decide +kernel
theorem d_D_note_9 : decode k_D_note 9 = .ok (.ifCond .ne 72, 3) := by decide +kernel
theorem d_D_note_12 : decode k_D_note 12 = .ok (.aload_n 0, 1) := by decide +kernel
theorem d_D_note_13 : decode k_D_note 13 = .ok (.getfield 13, 3) := by decide +kernel
theorem d_D_note_16 : decode k_D_note 16 = .ok (.iload 6, 2) := by decide +kernel
theorem d_D_note_18 : decode k_D_note 18 = .ok (.iload 4, 2) := by decide +kernel
theorem d_D_note_20 : decode k_D_note 20 = .ok (.iastore, 1) := by decide +kernel
theorem d_D_note_21 : decode k_D_note 21 = .ok (.aload_n 0, 1) := by decide +kernel
theorem d_D_note_22 : decode k_D_note 22 = .ok (.getfield 16, 3) := by decide +kernel
theorem d_D_note_25 : decode k_D_note 25 = .ok (.iload 6, 2) := by decide +kernel
theorem d_D_note_27 : decode k_D_note 27 = .ok (.iload 5, 2) := by decide +kernel
theorem d_D_note_29 : decode k_D_note 29 = .ok (.iastore, 1) := by decide +kernel
theorem d_D_note_30 : decode k_D_note 30 = .ok (.iconst 3, 1) := by decide +kernel
theorem d_D_note_31 : decode k_D_note 31 = .ok (.istore 7, 2) := by decide +kernel
theorem d_D_note_33 : decode k_D_note 33 = .ok (.iload 7, 2) := by decide +kernel
theorem d_D_note_35 : decode k_D_note 35 = .ok (.ifCond .le 33, 3) := by decide +kernel
theorem d_D_note_38 : decode k_D_note 38 = .ok (.aload_n 0, 1) := by decide +kernel
theorem d_D_note_39 : decode k_D_note 39 = .ok (.getfield 37, 3) := by decide +kernel
theorem d_D_note_42 : decode k_D_note 42 = .ok (.iconst 4, 1) := by decide +kernel
theorem d_D_note_43 : decode k_D_note 43 = .ok (.iload_n 1, 1) := by decide +kernel
theorem d_D_note_44 : decode k_D_note 44 = .ok (.imul, 1) := by decide +kernel
theorem d_D_note_45 : decode k_D_note 45 = .ok (.iload 7, 2) := by decide +kernel
theorem d_D_note_47 : decode k_D_note 47 = .ok (.iadd, 1) := by decide +kernel
theorem d_D_note_48 : decode k_D_note 48 = .ok (.aload_n 0, 1) := by decide +kernel
theorem d_D_note_49 : decode k_D_note 49 = .ok (.getfield 37, 3) := by decide +kernel
theorem d_D_note_52 : decode k_D_note 52 = .ok (.iconst 4, 1) := by decide +kernel
theorem d_D_note_53 : decode k_D_note 53 = .ok (.iload_n 1, 1) := by decide +kernel
theorem d_D_note_54 : decode k_D_note 54 = .ok (.imul, 1) := by decide +kernel
theorem d_D_note_55 : decode k_D_note 55 = .ok (.iload 7, 2) := by decide +kernel
theorem d_D_note_57 : decode k_D_note 57 = .ok (.iadd, 1) := by decide +kernel
theorem d_D_note_58 : decode k_D_note 58 = .ok (.iconst 1, 1) := by decide +kernel
theorem d_D_note_59 : decode k_D_note 59 = .ok (.isub, 1) := by decide +kernel
theorem d_D_note_60 : decode k_D_note 60 = .ok (.iaload, 1) := by decide +kernel
theorem d_D_note_61 : decode k_D_note 61 = .ok (.iastore, 1) := by decide +kernel
theorem d_D_note_62 : decode k_D_note 62 = .ok (.iinc 7 (-1), 3) := by decide +kernel
theorem d_D_note_65 : decode k_D_note 65 = .ok (.goto (-32), 3) := by decide +kernel
theorem d_D_note_68 : decode k_D_note 68 = .ok (.aload_n 0, 1) := by decide +kernel
theorem d_D_note_69 : decode k_D_note 69 = .ok (.getfield 37, 3) := by decide +kernel
theorem d_D_note_72 : decode k_D_note 72 = .ok (.iconst 4, 1) := by decide +kernel
theorem d_D_note_73 : decode k_D_note 73 = .ok (.iload_n 1, 1) := by decide +kernel
theorem d_D_note_74 : decode k_D_note 74 = .ok (.imul, 1) := by decide +kernel
theorem d_D_note_75 : decode k_D_note 75 = .ok (.iload 5, 2) := by decide +kernel
theorem d_D_note_77 : decode k_D_note 77 = .ok (.iastore, 1) := by decide +kernel
theorem d_D_note_78 : decode k_D_note 78 = .ok (.goto 86, 3) := by decide +kernel
theorem d_D_note_81 : decode k_D_note 81 = .ok (.iload_n 2, 1) := by decide +kernel
theorem d_D_note_82 : decode k_D_note 82 = .ok (.iconst 3, 1) := by decide +kernel
theorem d_D_note_83 : decode k_D_note 83 = .ok (.if_icmp .ne 23, 3) := by decide +kernel
theorem d_D_note_86 : decode k_D_note 86 = .ok (.aload_n 0, 1) := by decide +kernel
theorem d_D_note_87 : decode k_D_note 87 = .ok (.getfield 13, 3) := by decide +kernel
theorem d_D_note_90 : decode k_D_note 90 = .ok (.iload 6, 2) := by decide +kernel
theorem d_D_note_92 : decode k_D_note 92 = .ok (.iconst (-1), 1) := by decide +kernel
theorem d_D_note_93 : decode k_D_note 93 = .ok (.iastore, 1) := by decide +kernel
theorem d_D_note_94 : decode k_D_note 94 = .ok (.aload_n 0, 1) := by decide +kernel
theorem d_D_note_95 : decode k_D_note 95 = .ok (.getfield 19, 3) := by decide +kernel
theorem d_D_note_98 : decode k_D_note 98 = .ok (.iload 6, 2) := by decide +kernel
theorem d_D_note_100 : decode k_D_note 100 = .ok (.iload 5, 2) := by decide +kernel
theorem d_D_note_102 : decode k_D_note 102 = .ok (.iastore, 1) := by decide +kernel
theorem d_D_note_103 : decode k_D_note 103 = .ok (.goto 61, 3) := by decide +kernel
theorem d_D_note_106 : decode k_D_note 106 = .ok (.iload_n 2, 1) := by decide +kernel
theorem d_D_note_107 : decode k_D_note 107 = .ok (.iconst 4, 1) := by decide +kernel
theorem d_D_note_108 : decode k_D_note 108 = .ok (.if_icmp .ne 14, 3) := by decide +kernel
theorem d_D_note_111 : decode k_D_note 111 = .ok (.aload_n 0, 1) := by decide +kernel
theorem d_D_note_112 : decode k_D_note 112 = .ok (.getfield 34, 3) := by decide +kernel
theorem d_D_note_115 : decode k_D_note 115 = .ok (.iload_n 1, 1) := by decide +kernel
theorem d_D_note_116 : decode k_D_note 116 = .ok (.iload 5, 2) := by decide +kernel
theorem d_D_note_118 : decode k_D_note 118 = .ok (.iastore, 1) := by decide +kernel
theorem d_D_note_119 : decode k_D_note 119 = .ok (.goto 45, 3) := by decide +kernel
theorem d_D_note_122 : decode k_D_note 122 = .ok (.aload_n 0, 1) := by decide +kernel
theorem d_D_note_123 : decode k_D_note 123 = .ok (.getfield 31, 3) := by decide +kernel
theorem d_D_note_126 : decode k_D_note 126 = .ok (.iload_n 1, 1) := by decide +kernel
theorem d_D_note_127 : decode k_D_note 127 = .ok (.iload 5, 2) := by decide +kernel
theorem d_D_note_129 : decode k_D_note 129 = .ok (.iastore, 1) := by decide +kernel
theorem d_D_note_130 : decode k_D_note 130 = .ok (.iload_n 2, 1) := by decide +kernel
theorem d_D_note_131 : decode k_D_note 131 = .ok (.iconst 1, 1) := by decide +kernel
theorem d_D_note_132 : decode k_D_note 132 = .ok (.if_icmp .ne 15, 3) := by decide +kernel
theorem d_D_note_135 : decode k_D_note 135 = .ok (.aload_n 0, 1) := by decide +kernel
theorem d_D_note_136 : decode k_D_note 136 = .ok (.getfield 22, 3) := by decide +kernel
theorem d_D_note_139 : decode k_D_note 139 = .ok (.iload 6, 2) := by decide +kernel
theorem d_D_note_141 : decode k_D_note 141 = .ok (.iload 5, 2) := by decide +kernel
theorem d_D_note_143 : decode k_D_note 143 = .ok (.iastore, 1) := by decide +kernel
theorem d_D_note_144 : decode k_D_note 144 = .ok (.goto 20, 3) := by decide +kernel
theorem d_D_note_147 : decode k_D_note 147 = .ok (.aload_n 0, 1) := by decide +kernel
theorem d_D_note_148 : decode k_D_note 148 = .ok (.getfield 25, 3) := by decide +kernel
theorem d_D_note_151 : decode k_D_note 151 = .ok (.iload 6, 2) := by decide +kernel
theorem d_D_note_153 : decode k_D_note 153 = .ok (.iload 5, 2) := by decide +kernel
theorem d_D_note_155 : decode k_D_note 155 = .ok (.iastore, 1) := by decide +kernel
theorem d_D_note_156 : decode k_D_note 156 = .ok (.aload_n 0, 1) := by decide +kernel
theorem d_D_note_157 : decode k_D_note 157 = .ok (.getfield 28, 3) := by decide +kernel
theorem d_D_note_160 : decode k_D_note 160 = .ok (.iload_n 1, 1) := by decide +kernel
theorem d_D_note_161 : decode k_D_note 161 = .ok (.iload 5, 2) := by decide +kernel
theorem d_D_note_163 : decode k_D_note 163 = .ok (.iastore, 1) := by decide +kernel
theorem d_D_note_164 : decode k_D_note 164 = .ok (.return_, 1) := by decide +kernel
theorem d_D_waiting_0 : decode k_D_waiting 0 = .ok (.iconst 0, 1) := by decide +kernel
theorem d_D_waiting_1 : decode k_D_waiting 1 = .ok (.istore_n 2, 1) := by decide +kernel
theorem d_D_waiting_2 : decode k_D_waiting 2 = .ok (.iconst 0, 1) := by decide +kernel
theorem d_D_waiting_3 : decode k_D_waiting 3 = .ok (.istore_n 3, 1) := by decide +kernel
theorem d_D_waiting_4 : decode k_D_waiting 4 = .ok (.iload_n 3, 1) := by decide +kernel
theorem d_D_waiting_5 : decode k_D_waiting 5 = .ok (.aload_n 0, 1) := by decide +kernel
theorem d_D_waiting_6 : decode k_D_waiting 6 = .ok (.getfield 130, 3) := by decide +kernel
theorem d_D_waiting_9 : decode k_D_waiting 9 = .ok (.if_icmp .ge 44, 3) := by decide +kernel
theorem d_D_waiting_12 : decode k_D_waiting 12 = .ok (.iload_n 2, 1) := by decide +kernel
theorem d_D_waiting_13 : decode k_D_waiting 13 = .ok (.aload_n 0, 1) := by decide +kernel
theorem d_D_waiting_14 : decode k_D_waiting 14 = .ok (.getfield 59, 3) := by decide +kernel
theorem d_D_waiting_17 : decode k_D_waiting 17 = .ok (.iload_n 3, 1) := by decide +kernel
theorem d_D_waiting_18 : decode k_D_waiting 18 = .ok (.iaload, 1) := by decide +kernel
theorem d_D_waiting_19 : decode k_D_waiting 19 = .ok (.ifCond .ge 25, 3) := by decide +kernel
theorem d_D_waiting_22 : decode k_D_waiting 22 = .ok (.iload_n 1, 1) := by decide +kernel
theorem d_D_waiting_23 : decode k_D_waiting 23 = .ok (.ifCond .lt 17, 3) := by decide +kernel
theorem d_D_waiting_26 : decode k_D_waiting 26 = .ok (.aload_n 0, 1) := by decide +kernel
theorem d_D_waiting_27 : decode k_D_waiting 27 = .ok (.aload_n 0, 1) := by decide +kernel
theorem d_D_waiting_28 : decode k_D_waiting 28 = .ok (.getfield 50, 3) := by decide +kernel
theorem d_D_waiting_31 : decode k_D_waiting 31 = .ok (.iload_n 3, 1) := by decide +kernel
theorem d_D_waiting_32 : decode k_D_waiting 32 = .ok (.iaload, 1) := by decide +kernel
theorem d_D_waiting_33 : decode k_D_waiting 33 = .ok (.invokevirtual 114, 3) := by decide +kernel
theorem d_D_waiting_36 : decode k_D_waiting 36 = .ok (.iload_n 1, 1) := by decide +kernel
theorem d_D_waiting_37 : decode k_D_waiting 37 = .ok (.if_icmp .ne 7, 3) := by decide +kernel
theorem d_D_waiting_40 : decode k_D_waiting 40 = .ok (.iconst 1, 1) := by decide +kernel
theorem d_D_waiting_41 : decode k_D_waiting 41 = .ok (.goto 4, 3) := by decide +kernel
theorem d_D_waiting_44 : decode k_D_waiting 44 = .ok (.iconst 0, 1) := by decide +kernel
theorem d_D_waiting_45 : decode k_D_waiting 45 = .ok (.iadd, 1) := by decide +kernel
theorem d_D_waiting_46 : decode k_D_waiting 46 = .ok (.istore_n 2, 1) := by decide +kernel
theorem d_D_waiting_47 : decode k_D_waiting 47 = .ok (.iinc 3 1, 3) := by decide +kernel
theorem d_D_waiting_50 : decode k_D_waiting 50 = .ok (.goto (-46), 3) := by decide +kernel
theorem d_D_waiting_53 : decode k_D_waiting 53 = .ok (.iload_n 2, 1) := by decide +kernel
theorem d_D_waiting_54 : decode k_D_waiting 54 = .ok (.ireturn, 1) := by decide +kernel
theorem d_D_time_0 : decode k_D_time 0 = .ok (.aload_n 0, 1) := by decide +kernel
theorem d_D_time_1 : decode k_D_time 1 = .ok (.iconst 0, 1) := by decide +kernel
theorem d_D_time_2 : decode k_D_time 2 = .ok (.putfield 97, 3) := by decide +kernel
theorem d_D_time_5 : decode k_D_time 5 = .ok (.iload_n 1, 1) := by decide +kernel
theorem d_D_time_6 : decode k_D_time 6 = .ok (.iconst 0, 1) := by decide +kernel
theorem d_D_time_7 : decode k_D_time 7 = .ok (.bipush 8, 2) := by decide +kernel
theorem d_D_time_9 : decode k_D_time 9 = .ok (.invokestatic 102, 3) := by decide +kernel
theorem d_D_time_12 : decode k_D_time 12 = .ok (.ifCond .ne 9, 3) := by decide +kernel
theorem d_D_time_15 : decode k_D_time 15 = .ok (.aload_n 0, 1) := by decide +kernel
theorem d_D_time_16 : decode k_D_time 16 = .ok (.iconst 1, 1) := by decide +kernel
theorem d_D_time_17 : decode k_D_time 17 = .ok (.invokevirtual 110, 3) := by decide +kernel
theorem d_D_time_20 : decode k_D_time 20 = .ok (.ireturn, 1) := by decide +kernel
theorem d_D_time_21 : decode k_D_time 21 = .ok (.iload_n 2, 1) := by decide +kernel
theorem d_D_time_22 : decode k_D_time 22 = .ok (.iconst 1, 1) := by decide +kernel
theorem d_D_time_23 : decode k_D_time 23 = .ok (.bipush 100, 2) := by decide +kernel
theorem d_D_time_25 : decode k_D_time 25 = .ok (.invokestatic 102, 3) := by decide +kernel
theorem d_D_time_28 : decode k_D_time 28 = .ok (.ifCond .ne 9, 3) := by decide +kernel
theorem d_D_time_31 : decode k_D_time 31 = .ok (.aload_n 0, 1) := by decide +kernel
theorem d_D_time_32 : decode k_D_time 32 = .ok (.iconst 2, 1) := by decide +kernel
theorem d_D_time_33 : decode k_D_time 33 = .ok (.invokevirtual 110, 3) := by decide +kernel
theorem d_D_time_36 : decode k_D_time 36 = .ok (.ireturn, 1) := by decide +kernel
theorem d_D_time_37 : decode k_D_time 37 = .ok (.aload_n 0, 1) := by decide +kernel
theorem d_D_time_38 : decode k_D_time 38 = .ok (.iconst (-1), 1) := by decide +kernel
theorem d_D_time_39 : decode k_D_time 39 = .ok (.invokevirtual 133, 3) := by decide +kernel
theorem d_D_time_42 : decode k_D_time 42 = .ok (.ifCond .gt 19, 3) := by decide +kernel
theorem d_D_time_45 : decode k_D_time 45 = .ok (.aload_n 0, 1) := by decide +kernel
theorem d_D_time_46 : decode k_D_time 46 = .ok (.iconst 0, 1) := by decide +kernel
theorem d_D_time_47 : decode k_D_time 47 = .ok (.invokevirtual 123, 3) := by decide +kernel
theorem d_D_time_50 : decode k_D_time 50 = .ok (.ifCond .ne 11, 3) := by decide +kernel
theorem d_D_time_53 : decode k_D_time 53 = .ok (.aload_n 0, 1) := by decide +kernel
theorem d_D_time_54 : decode k_D_time 54 = .ok (.iconst 1, 1) := by decide +kernel
theorem d_D_time_55 : decode k_D_time 55 = .ok (.invokevirtual 123, 3) := by decide +kernel
theorem d_D_time_58 : decode k_D_time 58 = .ok (.ifCond .eq 9, 3) := by decide +kernel
theorem d_D_time_61 : decode k_D_time 61 = .ok (.aload_n 0, 1) := by decide +kernel
theorem d_D_time_62 : decode k_D_time 62 = .ok (.iconst 3, 1) := by decide +kernel
theorem d_D_time_63 : decode k_D_time 63 = .ok (.invokevirtual 110, 3) := by decide +kernel
theorem d_D_time_66 : decode k_D_time 66 = .ok (.ireturn, 1) := by decide +kernel
theorem d_D_time_67 : decode k_D_time 67 = .ok (.aload_n 0, 1) := by decide +kernel
theorem d_D_time_68 : decode k_D_time 68 = .ok (.getfield 7, 3) := by decide +kernel
theorem d_D_time_71 : decode k_D_time 71 = .ok (.iload_n 1, 1) := by decide +kernel
theorem d_D_time_72 : decode k_D_time 72 = .ok (.iaload, 1) := by decide +kernel
theorem d_D_time_73 : decode k_D_time 73 = .ok (.istore_n 3, 1) := by decide +kernel
theorem d_D_time_74 : decode k_D_time 74 = .ok (.aload_n 0, 1) := by decide +kernel
theorem d_D_time_75 : decode k_D_time 75 = .ok (.getfield 7, 3) := by decide +kernel
theorem d_D_time_78 : decode k_D_time 78 = .ok (.iload_n 1, 1) := by decide +kernel
theorem d_D_time_79 : decode k_D_time 79 = .ok (.iload_n 2, 1) := by decide +kernel
theorem d_D_time_80 : decode k_D_time 80 = .ok (.iastore, 1) := by decide +kernel
theorem d_D_time_81 : decode k_D_time 81 = .ok (.iload_n 3, 1) := by decide +kernel
theorem d_D_time_82 : decode k_D_time 82 = .ok (.ireturn, 1) := by decide +kernel
theorem d_D_span_0 : decode k_D_span 0 = .ok (.aload_n 0, 1) := by decide +kernel
theorem d_D_span_1 : decode k_D_span 1 = .ok (.iconst 0, 1) := by decide +kernel
theorem d_D_span_2 : decode k_D_span 2 = .ok (.putfield 97, 3) := by decide +kernel
theorem d_D_span_5 : decode k_D_span 5 = .ok (.iload_n 1, 1) := by decide +kernel
theorem d_D_span_6 : decode k_D_span 6 = .ok (.ifCond .eq 21, 3) := by decide +kernel
theorem d_D_span_9 : decode k_D_span 9 = .ok (.iload_n 1, 1) := by decide +kernel
theorem d_D_span_10 : decode k_D_span 10 = .ok (.bipush 50, 2) := by decide +kernel
theorem d_D_span_12 : decode k_D_span 12 = .ok (.sipush 10000, 3) := by decide +kernel
theorem d_D_span_15 : decode k_D_span 15 = .ok (.invokestatic 102, 3) := by decide +kernel
theorem d_D_span_18 : decode k_D_span 18 = .ok (.ifCond .ne 9, 3) := by decide +kernel
theorem d_D_span_21 : decode k_D_span 21 = .ok (.aload_n 0, 1) := by decide +kernel
theorem d_D_span_22 : decode k_D_span 22 = .ok (.iconst 1, 1) := by decide +kernel
theorem d_D_span_23 : decode k_D_span 23 = .ok (.invokevirtual 110, 3) := by decide +kernel
theorem d_D_span_26 : decode k_D_span 26 = .ok (.ireturn, 1) := by decide +kernel
theorem d_D_span_27 : decode k_D_span 27 = .ok (.aload_n 0, 1) := by decide +kernel
theorem d_D_span_28 : decode k_D_span 28 = .ok (.getfield 136, 3) := by decide +kernel
theorem d_D_span_31 : decode k_D_span 31 = .ok (.istore_n 2, 1) := by decide +kernel
theorem d_D_span_32 : decode k_D_span 32 = .ok (.aload_n 0, 1) := by decide +kernel
theorem d_D_span_33 : decode k_D_span 33 = .ok (.iload_n 1, 1) := by decide +kernel
theorem d_D_span_34 : decode k_D_span 34 = .ok (.putfield 136, 3) := by decide +kernel
theorem d_D_span_37 : decode k_D_span 37 = .ok (.iload_n 2, 1) := by decide +kernel
theorem d_D_span_38 : decode k_D_span 38 = .ok (.ireturn, 1) := by decide +kernel
theorem d_D_ask_0 : decode k_D_ask 0 = .ok (.aload_n 0, 1) := by decide +kernel
theorem d_D_ask_1 : decode k_D_ask 1 = .ok (.iconst 0, 1) := by decide +kernel
theorem d_D_ask_2 : decode k_D_ask 2 = .ok (.putfield 97, 3) := by decide +kernel
theorem d_D_ask_5 : decode k_D_ask 5 = .ok (.aload_n 0, 1) := by decide +kernel
theorem d_D_ask_6 : decode k_D_ask 6 = .ok (.iload_n 1, 1) := by decide +kernel
theorem d_D_ask_7 : decode k_D_ask 7 = .ok (.invokevirtual 106, 3) := by decide +kernel
theorem d_D_ask_10 : decode k_D_ask 10 = .ok (.ifCond .ne 9, 3) := by decide +kernel
theorem d_D_ask_13 : decode k_D_ask 13 = .ok (.aload_n 0, 1) := by decide +kernel
theorem d_D_ask_14 : decode k_D_ask 14 = .ok (.iconst 1, 1) := by decide +kernel
theorem d_D_ask_15 : decode k_D_ask 15 = .ok (.invokevirtual 110, 3) := by decide +kernel
theorem d_D_ask_18 : decode k_D_ask 18 = .ok (.ireturn, 1) := by decide +kernel
theorem d_D_ask_19 : decode k_D_ask 19 = .ok (.aload_n 0, 1) := by decide +kernel
theorem d_D_ask_20 : decode k_D_ask 20 = .ok (.aload_n 0, 1) := by decide +kernel
theorem d_D_ask_21 : decode k_D_ask 21 = .ok (.iload_n 1, 1) := by decide +kernel
theorem d_D_ask_22 : decode k_D_ask 22 = .ok (.invokevirtual 114, 3) := by decide +kernel
theorem d_D_ask_25 : decode k_D_ask 25 = .ok (.invokevirtual 133, 3) := by decide +kernel
theorem d_D_ask_28 : decode k_D_ask 28 = .ok (.bipush 8, 2) := by decide +kernel
theorem d_D_ask_30 : decode k_D_ask 30 = .ok (.if_icmp .ne 9, 3) := by decide +kernel
theorem d_D_ask_33 : decode k_D_ask 33 = .ok (.aload_n 0, 1) := by decide +kernel
theorem d_D_ask_34 : decode k_D_ask 34 = .ok (.iconst 2, 1) := by decide +kernel
theorem d_D_ask_35 : decode k_D_ask 35 = .ok (.invokevirtual 110, 3) := by decide +kernel
theorem d_D_ask_38 : decode k_D_ask 38 = .ok (.ireturn, 1) := by decide +kernel
theorem d_D_ask_39 : decode k_D_ask 39 = .ok (.aload_n 0, 1) := by decide +kernel
theorem d_D_ask_40 : decode k_D_ask 40 = .ok (.getfield 50, 3) := by decide +kernel
theorem d_D_ask_43 : decode k_D_ask 43 = .ok (.aload_n 0, 1) := by decide +kernel
theorem d_D_ask_44 : decode k_D_ask 44 = .ok (.getfield 130, 3) := by decide +kernel
theorem d_D_ask_47 : decode k_D_ask 47 = .ok (.iload_n 1, 1) := by decide +kernel
theorem d_D_ask_48 : decode k_D_ask 48 = .ok (.iastore, 1) := by decide +kernel
theorem d_D_ask_49 : decode k_D_ask 49 = .ok (.aload_n 0, 1) := by decide +kernel
theorem d_D_ask_50 : decode k_D_ask 50 = .ok (.getfield 53, 3) := by decide +kernel
theorem d_D_ask_53 : decode k_D_ask 53 = .ok (.aload_n 0, 1) := by decide +kernel
theorem d_D_ask_54 : decode k_D_ask 54 = .ok (.getfield 130, 3) := by decide +kernel
theorem d_D_ask_57 : decode k_D_ask 57 = .ok (.iload_n 2, 1) := by decide +kernel
theorem d_D_ask_58 : decode k_D_ask 58 = .ok (.bastore, 1) := by decide +kernel
theorem d_D_ask_59 : decode k_D_ask 59 = .ok (.aload_n 0, 1) := by decide +kernel
theorem d_D_ask_60 : decode k_D_ask 60 = .ok (.getfield 56, 3) := by decide +kernel
theorem d_D_ask_63 : decode k_D_ask 63 = .ok (.aload_n 0, 1) := by decide +kernel
theorem d_D_ask_64 : decode k_D_ask 64 = .ok (.getfield 130, 3) := by decide +kernel
theorem d_D_ask_67 : decode k_D_ask 67 = .ok (.aload_n 0, 1) := by decide +kernel
theorem d_D_ask_68 : decode k_D_ask 68 = .ok (.getfield 139, 3) := by decide +kernel
theorem d_D_ask_71 : decode k_D_ask 71 = .ok (.iastore, 1) := by decide +kernel
theorem d_D_ask_72 : decode k_D_ask 72 = .ok (.aload_n 0, 1) := by decide +kernel
theorem d_D_ask_73 : decode k_D_ask 73 = .ok (.getfield 59, 3) := by decide +kernel
theorem d_D_ask_76 : decode k_D_ask 76 = .ok (.aload_n 0, 1) := by decide +kernel
theorem d_D_ask_77 : decode k_D_ask 77 = .ok (.getfield 130, 3) := by decide +kernel
theorem d_D_ask_80 : decode k_D_ask 80 = .ok (.iconst (-1), 1) := by decide +kernel
theorem d_D_ask_81 : decode k_D_ask 81 = .ok (.iastore, 1) := by decide +kernel
theorem d_D_ask_82 : decode k_D_ask 82 = .ok (.aload_n 0, 1) := by decide +kernel
theorem d_D_ask_83 : decode k_D_ask 83 = .ok (.dup, 1) := by decide +kernel
theorem d_D_ask_84 : decode k_D_ask 84 = .ok (.getfield 130, 3) := by decide +kernel
theorem d_D_ask_87 : decode k_D_ask 87 = .ok (.iconst 1, 1) := by decide +kernel
theorem d_D_ask_88 : decode k_D_ask 88 = .ok (.iadd, 1) := by decide +kernel
theorem d_D_ask_89 : decode k_D_ask 89 = .ok (.putfield 130, 3) := by decide +kernel
theorem d_D_ask_92 : decode k_D_ask 92 = .ok (.aload_n 0, 1) := by decide +kernel
theorem d_D_ask_93 : decode k_D_ask 93 = .ok (.getfield 130, 3) := by decide +kernel
theorem d_D_ask_96 : decode k_D_ask 96 = .ok (.iconst 1, 1) := by decide +kernel
theorem d_D_ask_97 : decode k_D_ask 97 = .ok (.isub, 1) := by decide +kernel
theorem d_D_ask_98 : decode k_D_ask 98 = .ok (.ireturn, 1) := by decide +kernel
theorem d_D_give_0 : decode k_D_give 0 = .ok (.aload_n 0, 1) := by decide +kernel
theorem d_D_give_1 : decode k_D_give 1 = .ok (.getfield 142, 3) := by decide +kernel
theorem d_D_give_4 : decode k_D_give 4 = .ok (.sipush 512, 3) := by decide +kernel
theorem d_D_give_7 : decode k_D_give 7 = .ok (.irem, 1) := by decide +kernel
theorem d_D_give_8 : decode k_D_give 8 = .ok (.istore 5, 2) := by decide +kernel
theorem d_D_give_10 : decode k_D_give 10 = .ok (.aload_n 0, 1) := by decide +kernel
theorem d_D_give_11 : decode k_D_give 11 = .ok (.getfield 65, 3) := by decide +kernel
theorem d_D_give_14 : decode k_D_give 14 = .ok (.iload 5, 2) := by decide +kernel
theorem d_D_give_16 : decode k_D_give 16 = .ok (.iload_n 1, 1) := by decide +kernel
theorem d_D_give_17 : decode k_D_give 17 = .ok (.iastore, 1) := by decide +kernel
theorem d_D_give_18 : decode k_D_give 18 = .ok (.aload_n 0, 1) := by decide +kernel
theorem d_D_give_19 : decode k_D_give 19 = .ok (.getfield 68, 3) := by decide +kernel
theorem d_D_give_22 : decode k_D_give 22 = .ok (.iload 5, 2) := by decide +kernel
theorem d_D_give_24 : decode k_D_give 24 = .ok (.aload_n 0, 1) := by decide +kernel
theorem d_D_give_25 : decode k_D_give 25 = .ok (.getfield 139, 3) := by decide +kernel
theorem d_D_give_28 : decode k_D_give 28 = .ok (.iastore, 1) := by decide +kernel
theorem d_D_give_29 : decode k_D_give 29 = .ok (.aload_n 0, 1) := by decide +kernel
theorem d_D_give_30 : decode k_D_give 30 = .ok (.getfield 71, 3) := by decide +kernel
theorem d_D_give_33 : decode k_D_give 33 = .ok (.iload 5, 2) := by decide +kernel
theorem d_D_give_35 : decode k_D_give 35 = .ok (.iload_n 2, 1) := by decide +kernel
theorem d_D_give_36 : decode k_D_give 36 = .ok (.iastore, 1) := by decide +kernel
theorem d_D_give_37 : decode k_D_give 37 = .ok (.aload_n 0, 1) := by decide +kernel
theorem d_D_give_38 : decode k_D_give 38 = .ok (.getfield 74, 3) := by decide +kernel
theorem d_D_give_41 : decode k_D_give 41 = .ok (.iload 5, 2) := by decide +kernel
theorem d_D_give_43 : decode k_D_give 43 = .ok (.iload_n 3, 1) := by decide +kernel
theorem d_D_give_44 : decode k_D_give 44 = .ok (.iastore, 1) := by decide +kernel
theorem d_D_give_45 : decode k_D_give 45 = .ok (.aload_n 0, 1) := by decide +kernel
theorem d_D_give_46 : decode k_D_give 46 = .ok (.getfield 77, 3) := by decide +kernel
theorem d_D_give_49 : decode k_D_give 49 = .ok (.iload 5, 2) := by decide +kernel
theorem d_D_give_51 : decode k_D_give 51 = .ok (.iload 4, 2) := by decide +kernel
theorem d_D_give_53 : decode k_D_give 53 = .ok (.iastore, 1) := by decide +kernel
theorem d_D_give_54 : decode k_D_give 54 = .ok (.aload_n 0, 1) := by decide +kernel
theorem d_D_give_55 : decode k_D_give 55 = .ok (.dup, 1) := by decide +kernel
theorem d_D_give_56 : decode k_D_give 56 = .ok (.getfield 142, 3) := by decide +kernel
theorem d_D_give_59 : decode k_D_give 59 = .ok (.iconst 1, 1) := by decide +kernel
theorem d_D_give_60 : decode k_D_give 60 = .ok (.iadd, 1) := by decide +kernel
theorem d_D_give_61 : decode k_D_give 61 = .ok (.putfield 142, 3) := by decide +kernel
theorem d_D_give_64 : decode k_D_give 64 = .ok (.aload_n 0, 1) := by decide +kernel
theorem d_D_give_65 : decode k_D_give 65 = .ok (.getfield 62, 3) := by decide +kernel
theorem d_D_give_68 : decode k_D_give 68 = .ok (.iload_n 2, 1) := by decide +kernel
theorem d_D_give_69 : decode k_D_give 69 = .ok (.dup2, 1) := by decide +kernel
theorem d_D_give_70 : decode k_D_give 70 = .ok (.iaload, 1) := by decide +kernel
theorem d_D_give_71 : decode k_D_give 71 = .ok (.iconst 1, 1) := by decide +kernel
theorem d_D_give_72 : decode k_D_give 72 = .ok (.iadd, 1) := by decide +kernel
theorem d_D_give_73 : decode k_D_give 73 = .ok (.iastore, 1) := by decide +kernel
theorem d_D_give_74 : decode k_D_give 74 = .ok (.aload_n 0, 1) := by decide +kernel
theorem d_D_give_75 : decode k_D_give 75 = .ok (.iload_n 1, 1) := by decide +kernel
theorem d_D_give_76 : decode k_D_give 76 = .ok (.iload_n 2, 1) := by decide +kernel
theorem d_D_give_77 : decode k_D_give 77 = .ok (.iload_n 3, 1) := by decide +kernel
theorem d_D_give_78 : decode k_D_give 78 = .ok (.iload 4, 2) := by decide +kernel
theorem d_D_give_80 : decode k_D_give 80 = .ok (.aload_n 0, 1) := by decide +kernel
theorem d_D_give_81 : decode k_D_give 81 = .ok (.getfield 139, 3) := by decide +kernel
theorem d_D_give_84 : decode k_D_give 84 = .ok (.invokevirtual 145, 3) := by decide +kernel
theorem d_D_give_87 : decode k_D_give 87 = .ok (.return_, 1) := by decide +kernel
theorem d_D_nextOf_0 : decode k_D_nextOf 0 = .ok (.aload_n 0, 1) := by decide +kernel
theorem d_D_nextOf_1 : decode k_D_nextOf 1 = .ok (.getfield 13, 3) := by decide +kernel
theorem d_D_nextOf_4 : decode k_D_nextOf 4 = .ok (.bipush 8, 2) := by decide +kernel
theorem d_D_nextOf_6 : decode k_D_nextOf 6 = .ok (.aload_n 0, 1) := by decide +kernel
theorem d_D_nextOf_7 : decode k_D_nextOf 7 = .ok (.aload_n 0, 1) := by decide +kernel
theorem d_D_nextOf_8 : decode k_D_nextOf 8 = .ok (.getfield 50, 3) := by decide +kernel
theorem d_D_nextOf_11 : decode k_D_nextOf 11 = .ok (.iload_n 1, 1) := by decide +kernel
theorem d_D_nextOf_12 : decode k_D_nextOf 12 = .ok (.iaload, 1) := by decide +kernel
theorem d_D_nextOf_13 : decode k_D_nextOf 13 = .ok (.invokevirtual 114, 3) := by decide +kernel
theorem d_D_nextOf_16 : decode k_D_nextOf 16 = .ok (.imul, 1) := by decide +kernel
theorem d_D_nextOf_17 : decode k_D_nextOf 17 = .ok (.aload_n 0, 1) := by decide +kernel
theorem d_D_nextOf_18 : decode k_D_nextOf 18 = .ok (.aload_n 0, 1) := by decide +kernel
theorem d_D_nextOf_19 : decode k_D_nextOf 19 = .ok (.getfield 50, 3) := by decide +kernel
theorem d_D_nextOf_22 : decode k_D_nextOf 22 = .ok (.iload_n 1, 1) := by decide +kernel
theorem d_D_nextOf_23 : decode k_D_nextOf 23 = .ok (.iaload, 1) := by decide +kernel
theorem d_D_nextOf_24 : decode k_D_nextOf 24 = .ok (.invokevirtual 117, 3) := by decide +kernel
theorem d_D_nextOf_27 : decode k_D_nextOf 27 = .ok (.iadd, 1) := by decide +kernel
theorem d_D_nextOf_28 : decode k_D_nextOf 28 = .ok (.iaload, 1) := by decide +kernel
theorem d_D_nextOf_29 : decode k_D_nextOf 29 = .ok (.istore_n 2, 1) := by decide +kernel
theorem d_D_nextOf_30 : decode k_D_nextOf 30 = .ok (.iload_n 2, 1) := by decide +kernel
theorem d_D_nextOf_31 : decode k_D_nextOf 31 = .ok (.ifCond .ge 5, 3) := by decide +kernel
theorem d_D_nextOf_34 : decode k_D_nextOf 34 = .ok (.iconst 0, 1) := by decide +kernel
theorem d_D_nextOf_35 : decode k_D_nextOf 35 = .ok (.ireturn, 1) := by decide +kernel
theorem d_D_nextOf_36 : decode k_D_nextOf 36 = .ok (.iload_n 2, 1) := by decide +kernel
theorem d_D_nextOf_37 : decode k_D_nextOf 37 = .ok (.aload_n 0, 1) := by decide +kernel
theorem d_D_nextOf_38 : decode k_D_nextOf 38 = .ok (.aload_n 0, 1) := by decide +kernel
theorem d_D_nextOf_39 : decode k_D_nextOf 39 = .ok (.getfield 50, 3) := by decide +kernel
theorem d_D_nextOf_42 : decode k_D_nextOf 42 = .ok (.iload_n 1, 1) := by decide +kernel
theorem d_D_nextOf_43 : decode k_D_nextOf 43 = .ok (.iaload, 1) := by decide +kernel
theorem d_D_nextOf_44 : decode k_D_nextOf 44 = .ok (.invokevirtual 120, 3) := by decide +kernel
theorem d_D_nextOf_47 : decode k_D_nextOf 47 = .ok (.if_icmp .eq 7, 3) := by decide +kernel
theorem d_D_nextOf_50 : decode k_D_nextOf 50 = .ok (.iconst 3, 1) := by decide +kernel
theorem d_D_nextOf_51 : decode k_D_nextOf 51 = .ok (.goto 17, 3) := by decide +kernel
theorem d_D_nextOf_54 : decode k_D_nextOf 54 = .ok (.aload_n 0, 1) := by decide +kernel
theorem d_D_nextOf_55 : decode k_D_nextOf 55 = .ok (.getfield 53, 3) := by decide +kernel
theorem d_D_nextOf_58 : decode k_D_nextOf 58 = .ok (.iload_n 1, 1) := by decide +kernel
theorem d_D_nextOf_59 : decode k_D_nextOf 59 = .ok (.baload, 1) := by decide +kernel
theorem d_D_nextOf_60 : decode k_D_nextOf 60 = .ok (.ifCond .eq 7, 3) := by decide +kernel
theorem d_D_nextOf_63 : decode k_D_nextOf 63 = .ok (.iconst 2, 1) := by decide +kernel
theorem d_D_nextOf_64 : decode k_D_nextOf 64 = .ok (.goto 4, 3) := by decide +kernel
theorem d_D_nextOf_67 : decode k_D_nextOf 67 = .ok (.iconst 1, 1) := by decide +kernel
theorem d_D_nextOf_68 : decode k_D_nextOf 68 = .ok (.ireturn, 1) := by decide +kernel
theorem d_D_isReady_0 : decode k_D_isReady 0 = .ok (.aload_n 0, 1) := by decide +kernel
theorem d_D_isReady_1 : decode k_D_isReady 1 = .ok (.aload_n 0, 1) := by decide +kernel
theorem d_D_isReady_2 : decode k_D_isReady 2 = .ok (.aload_n 0, 1) := by decide +kernel
theorem d_D_isReady_3 : decode k_D_isReady 3 = .ok (.getfield 50, 3) := by decide +kernel
theorem d_D_isReady_6 : decode k_D_isReady 6 = .ok (.iload_n 1, 1) := by decide +kernel
theorem d_D_isReady_7 : decode k_D_isReady 7 = .ok (.iaload, 1) := by decide +kernel
theorem d_D_isReady_8 : decode k_D_isReady 8 = .ok (.invokevirtual 114, 3) := by decide +kernel
theorem d_D_isReady_11 : decode k_D_isReady 11 = .ok (.aload_n 0, 1) := by decide +kernel
theorem d_D_isReady_12 : decode k_D_isReady 12 = .ok (.iload_n 1, 1) := by decide +kernel
theorem d_D_isReady_13 : decode k_D_isReady 13 = .ok (.invokevirtual 149, 3) := by decide +kernel
theorem d_D_isReady_16 : decode k_D_isReady 16 = .ok (.aload_n 0, 1) := by decide +kernel
theorem d_D_isReady_17 : decode k_D_isReady 17 = .ok (.aload_n 0, 1) := by decide +kernel
theorem d_D_isReady_18 : decode k_D_isReady 18 = .ok (.getfield 50, 3) := by decide +kernel
theorem d_D_isReady_21 : decode k_D_isReady 21 = .ok (.iload_n 1, 1) := by decide +kernel
theorem d_D_isReady_22 : decode k_D_isReady 22 = .ok (.iaload, 1) := by decide +kernel
theorem d_D_isReady_23 : decode k_D_isReady 23 = .ok (.invokevirtual 117, 3) := by decide +kernel
theorem d_D_isReady_26 : decode k_D_isReady 26 = .ok (.aload_n 0, 1) := by decide +kernel
theorem d_D_isReady_27 : decode k_D_isReady 27 = .ok (.getfield 139, 3) := by decide +kernel
theorem d_D_isReady_30 : decode k_D_isReady 30 = .ok (.invokevirtual 152, 3) := by decide +kernel
theorem d_D_isReady_33 : decode k_D_isReady 33 = .ok (.ifCond .ge 7, 3) := by decide +kernel
theorem d_D_isReady_36 : decode k_D_isReady 36 = .ok (.iconst 1, 1) := by decide +kernel
theorem d_D_isReady_37 : decode k_D_isReady 37 = .ok (.goto 4, 3) := by decide +kernel
theorem d_D_isReady_40 : decode k_D_isReady 40 = .ok (.iconst 0, 1) := by decide +kernel
theorem d_D_isReady_41 : decode k_D_isReady 41 = .ok (.ireturn, 1) := by decide +kernel
theorem d_D_isOf_0 : decode k_D_isOf 0 = .ok (.aload_n 0, 1) := by decide +kernel
theorem d_D_isOf_1 : decode k_D_isOf 1 = .ok (.getfield 59, 3) := by decide +kernel
theorem d_D_isOf_4 : decode k_D_isOf 4 = .ok (.iload_n 1, 1) := by decide +kernel
theorem d_D_isOf_5 : decode k_D_isOf 5 = .ok (.iaload, 1) := by decide +kernel
theorem d_D_isOf_6 : decode k_D_isOf 6 = .ok (.ifCond .ge 21, 3) := by decide +kernel
theorem d_D_isOf_9 : decode k_D_isOf 9 = .ok (.aload_n 0, 1) := by decide +kernel
theorem d_D_isOf_10 : decode k_D_isOf 10 = .ok (.aload_n 0, 1) := by decide +kernel
theorem d_D_isOf_11 : decode k_D_isOf 11 = .ok (.getfield 50, 3) := by decide +kernel
theorem d_D_isOf_14 : decode k_D_isOf 14 = .ok (.iload_n 1, 1) := by decide +kernel
theorem d_D_isOf_15 : decode k_D_isOf 15 = .ok (.iaload, 1) := by decide +kernel
theorem d_D_isOf_16 : decode k_D_isOf 16 = .ok (.invokevirtual 114, 3) := by decide +kernel
theorem d_D_isOf_19 : decode k_D_isOf 19 = .ok (.iload_n 2, 1) := by decide +kernel
theorem d_D_isOf_20 : decode k_D_isOf 20 = .ok (.if_icmp .ne 7, 3) := by decide +kernel
theorem d_D_isOf_23 : decode k_D_isOf 23 = .ok (.iconst 1, 1) := by decide +kernel
theorem d_D_isOf_24 : decode k_D_isOf 24 = .ok (.goto 4, 3) := by decide +kernel
theorem d_D_isOf_27 : decode k_D_isOf 27 = .ok (.iconst 0, 1) := by decide +kernel
theorem d_D_isOf_28 : decode k_D_isOf 28 = .ok (.ireturn, 1) := by decide +kernel
theorem d_D_isAmong_0 : decode k_D_isAmong 0 = .ok (.aload_n 0, 1) := by decide +kernel
theorem d_D_isAmong_1 : decode k_D_isAmong 1 = .ok (.iload_n 1, 1) := by decide +kernel
theorem d_D_isAmong_2 : decode k_D_isAmong 2 = .ok (.iload_n 2, 1) := by decide +kernel
theorem d_D_isAmong_3 : decode k_D_isAmong 3 = .ok (.invokevirtual 155, 3) := by decide +kernel
theorem d_D_isAmong_6 : decode k_D_isAmong 6 = .ok (.ifCond .eq 30, 3) := by decide +kernel
theorem d_D_isAmong_9 : decode k_D_isAmong 9 = .ok (.iload_n 3, 1) := by decide +kernel
theorem d_D_isAmong_10 : decode k_D_isAmong 10 = .ok (.ifCond .eq 22, 3) := by decide +kernel
theorem d_D_isAmong_13 : decode k_D_isAmong 13 = .ok (.aload_n 0, 1) := by decide +kernel
theorem d_D_isAmong_14 : decode k_D_isAmong 14 = .ok (.getfield 53, 3) := by decide +kernel
theorem d_D_isAmong_17 : decode k_D_isAmong 17 = .ok (.iload_n 1, 1) := by decide +kernel
theorem d_D_isAmong_18 : decode k_D_isAmong 18 = .ok (.baload, 1) := by decide +kernel
theorem d_D_isAmong_19 : decode k_D_isAmong 19 = .ok (.iload_n 3, 1) := by decide +kernel
theorem d_D_isAmong_20 : decode k_D_isAmong 20 = .ok (.iconst 2, 1) := by decide +kernel
theorem d_D_isAmong_21 : decode k_D_isAmong 21 = .ok (.if_icmp .ne 7, 3) := by decide +kernel
theorem d_D_isAmong_24 : decode k_D_isAmong 24 = .ok (.iconst 1, 1) := by decide +kernel
theorem d_D_isAmong_25 : decode k_D_isAmong 25 = .ok (.goto 4, 3) := by decide +kernel
theorem d_D_isAmong_28 : decode k_D_isAmong 28 = .ok (.iconst 0, 1) := by decide +kernel
theorem d_D_isAmong_29 : decode k_D_isAmong 29 = .ok (.if_icmp .ne 7, 3) := by decide +kernel
theorem d_D_isAmong_32 : decode k_D_isAmong 32 = .ok (.iconst 1, 1) := by decide +kernel
theorem d_D_isAmong_33 : decode k_D_isAmong 33 = .ok (.goto 4, 3) := by decide +kernel
theorem d_D_isAmong_36 : decode k_D_isAmong 36 = .ok (.iconst 0, 1) := by decide +kernel
theorem d_D_isAmong_37 : decode k_D_isAmong 37 = .ok (.ireturn, 1) := by decide +kernel
theorem d_D_isWanted_0 : decode k_D_isWanted 0 = .ok (.iconst 0, 1) := by decide +kernel
theorem d_D_isWanted_1 : decode k_D_isWanted 1 = .ok (.istore 4, 2) := by decide +kernel
theorem d_D_isWanted_3 : decode k_D_isWanted 3 = .ok (.iconst 0, 1) := by decide +kernel
theorem d_D_isWanted_4 : decode k_D_isWanted 4 = .ok (.istore 5, 2) := by decide +kernel
theorem d_D_isWanted_6 : decode k_D_isWanted 6 = .ok (.iload 5, 2) := by decide +kernel
theorem d_D_isWanted_8 : decode k_D_isWanted 8 = .ok (.aload_n 0, 1) := by decide +kernel
theorem d_D_isWanted_9 : decode k_D_isWanted 9 = .ok (.getfield 130, 3) := by decide +kernel
theorem d_D_isWanted_12 : decode k_D_isWanted 12 = .ok (.if_icmp .ge 96, 3) := by decide +kernel
theorem d_D_isWanted_15 : decode k_D_isWanted 15 = .ok (.iload 4, 2) := by decide +kernel
theorem d_D_isWanted_17 : decode k_D_isWanted 17 = .ok (.ifCond .ne 78, 3) := by decide +kernel
theorem d_D_isWanted_20 : decode k_D_isWanted 20 = .ok (.iload 5, 2) := by decide +kernel
theorem d_D_isWanted_22 : decode k_D_isWanted 22 = .ok (.iload_n 1, 1) := by decide +kernel
theorem d_D_isWanted_23 : decode k_D_isWanted 23 = .ok (.if_icmp .eq 76, 3) := by decide +kernel
theorem d_D_isWanted_26 : decode k_D_isWanted 26 = .ok (.aload_n 0, 1) := by decide +kernel
theorem d_D_isWanted_27 : decode k_D_isWanted 27 = .ok (.iload 5, 2) := by decide +kernel
theorem d_D_isWanted_29 : decode k_D_isWanted 29 = .ok (.iload_n 2, 1) := by decide +kernel
theorem d_D_isWanted_30 : decode k_D_isWanted 30 = .ok (.iload_n 3, 1) := by decide +kernel
theorem d_D_isWanted_31 : decode k_D_isWanted 31 = .ok (.invokevirtual 159, 3) := by decide +kernel
theorem d_D_isWanted_34 : decode k_D_isWanted 34 = .ok (.ifCond .eq 65, 3) := by decide +kernel
theorem d_D_isWanted_37 : decode k_D_isWanted 37 = .ok (.aload_n 0, 1) := by decide +kernel
theorem d_D_isWanted_38 : decode k_D_isWanted 38 = .ok (.aload_n 0, 1) := by decide +kernel
theorem d_D_isWanted_39 : decode k_D_isWanted 39 = .ok (.getfield 50, 3) := by decide +kernel
theorem d_D_isWanted_42 : decode k_D_isWanted 42 = .ok (.iload 5, 2) := by decide +kernel
theorem d_D_isWanted_44 : decode k_D_isWanted 44 = .ok (.iaload, 1) := by decide +kernel
theorem d_D_isWanted_45 : decode k_D_isWanted 45 = .ok (.invokevirtual 117, 3) := by decide +kernel
theorem d_D_isWanted_48 : decode k_D_isWanted 48 = .ok (.aload_n 0, 1) := by decide +kernel
theorem d_D_isWanted_49 : decode k_D_isWanted 49 = .ok (.aload_n 0, 1) := by decide +kernel
theorem d_D_isWanted_50 : decode k_D_isWanted 50 = .ok (.getfield 50, 3) := by decide +kernel
theorem d_D_isWanted_53 : decode k_D_isWanted 53 = .ok (.iload_n 1, 1) := by decide +kernel
theorem d_D_isWanted_54 : decode k_D_isWanted 54 = .ok (.iaload, 1) := by decide +kernel
theorem d_D_isWanted_55 : decode k_D_isWanted 55 = .ok (.invokevirtual 117, 3) := by decide +kernel
theorem d_D_isWanted_58 : decode k_D_isWanted 58 = .ok (.if_icmp .ne 41, 3) := by decide +kernel
theorem d_D_isWanted_61 : decode k_D_isWanted 61 = .ok (.aload_n 0, 1) := by decide +kernel
theorem d_D_isWanted_62 : decode k_D_isWanted 62 = .ok (.aload_n 0, 1) := by decide +kernel
theorem d_D_isWanted_63 : decode k_D_isWanted 63 = .ok (.getfield 50, 3) := by decide +kernel
theorem d_D_isWanted_66 : decode k_D_isWanted 66 = .ok (.iload 5, 2) := by decide +kernel
theorem d_D_isWanted_68 : decode k_D_isWanted 68 = .ok (.iaload, 1) := by decide +kernel
theorem d_D_isWanted_69 : decode k_D_isWanted 69 = .ok (.invokevirtual 120, 3) := by decide +kernel
theorem d_D_isWanted_72 : decode k_D_isWanted 72 = .ok (.aload_n 0, 1) := by decide +kernel
theorem d_D_isWanted_73 : decode k_D_isWanted 73 = .ok (.getfield 13, 3) := by decide +kernel
theorem d_D_isWanted_76 : decode k_D_isWanted 76 = .ok (.bipush 8, 2) := by decide +kernel
theorem d_D_isWanted_78 : decode k_D_isWanted 78 = .ok (.iload_n 2, 1) := by decide +kernel
theorem d_D_isWanted_79 : decode k_D_isWanted 79 = .ok (.imul, 1) := by decide +kernel
theorem d_D_isWanted_80 : decode k_D_isWanted 80 = .ok (.aload_n 0, 1) := by decide +kernel
theorem d_D_isWanted_81 : decode k_D_isWanted 81 = .ok (.aload_n 0, 1) := by decide +kernel
theorem d_D_isWanted_82 : decode k_D_isWanted 82 = .ok (.getfield 50, 3) := by decide +kernel
theorem d_D_isWanted_85 : decode k_D_isWanted 85 = .ok (.iload_n 1, 1) := by decide +kernel
theorem d_D_isWanted_86 : decode k_D_isWanted 86 = .ok (.iaload, 1) := by decide +kernel
theorem d_D_isWanted_87 : decode k_D_isWanted 87 = .ok (.invokevirtual 117, 3) := by decide +kernel
theorem d_D_isWanted_90 : decode k_D_isWanted 90 = .ok (.iadd, 1) := by decide +kernel
theorem d_D_isWanted_91 : decode k_D_isWanted 91 = .ok (.iaload, 1) := by decide +kernel
theorem d_D_isWanted_92 : decode k_D_isWanted 92 = .ok (.if_icmp .ne 7, 3) := by decide +kernel
theorem d_D_isWanted_95 : decode k_D_isWanted 95 = .ok (.iconst 1, 1) := by decide +kernel
theorem d_D_isWanted_96 : decode k_D_isWanted 96 = .ok (.goto 4, 3) := by decide +kernel
theorem d_D_isWanted_99 : decode k_D_isWanted 99 = .ok (.iconst 0, 1) := by decide +kernel
theorem d_D_isWanted_100 : decode k_D_isWanted 100 = .ok (.istore 4, 2) := by decide +kernel
theorem d_D_isWanted_102 : decode k_D_isWanted 102 = .ok (.iinc 5 1, 3) := by decide +kernel
theorem d_D_isWanted_105 : decode k_D_isWanted 105 = .ok (.goto (-99), 3) := by decide +kernel
theorem d_D_isWanted_108 : decode k_D_isWanted 108 = .ok (.iload 4, 2) := by decide +kernel
theorem d_D_isWanted_110 : decode k_D_isWanted 110 = .ok (.ireturn, 1) := by decide +kernel
theorem d_D_byRows_0 : decode k_D_byRows 0 = .ok (.iconst 0, 1) := by decide +kernel
theorem d_D_byRows_1 : decode k_D_byRows 1 = .ok (.istore_n 3, 1) := by decide +kernel
theorem d_D_byRows_2 : decode k_D_byRows 2 = .ok (.iload_n 3, 1) := by decide +kernel
theorem d_D_byRows_3 : decode k_D_byRows 3 = .ok (.aload_n 0, 1) := by decide +kernel
theorem d_D_byRows_4 : decode k_D_byRows 4 = .ok (.getfield 130, 3) := by decide +kernel
theorem d_D_byRows_7 : decode k_D_byRows 7 = .ok (.if_icmp .ge 47, 3) := by decide +kernel
theorem d_D_byRows_10 : decode k_D_byRows 10 = .ok (.aload_n 0, 1) := by decide +kernel
theorem d_D_byRows_11 : decode k_D_byRows 11 = .ok (.iload_n 3, 1) := by decide +kernel
theorem d_D_byRows_12 : decode k_D_byRows 12 = .ok (.iload_n 1, 1) := by decide +kernel
theorem d_D_byRows_13 : decode k_D_byRows 13 = .ok (.iload_n 2, 1) := by decide +kernel
theorem d_D_byRows_14 : decode k_D_byRows 14 = .ok (.invokevirtual 159, 3) := by decide +kernel
theorem d_D_byRows_17 : decode k_D_byRows 17 = .ok (.ifCond .eq 31, 3) := by decide +kernel
theorem d_D_byRows_20 : decode k_D_byRows 20 = .ok (.aload_n 0, 1) := by decide +kernel
theorem d_D_byRows_21 : decode k_D_byRows 21 = .ok (.iload_n 3, 1) := by decide +kernel
theorem d_D_byRows_22 : decode k_D_byRows 22 = .ok (.invokevirtual 149, 3) := by decide +kernel
theorem d_D_byRows_25 : decode k_D_byRows 25 = .ok (.iconst 1, 1) := by decide +kernel
theorem d_D_byRows_26 : decode k_D_byRows 26 = .ok (.if_icmp .eq 12, 3) := by decide +kernel
theorem d_D_byRows_29 : decode k_D_byRows 29 = .ok (.aload_n 0, 1) := by decide +kernel
theorem d_D_byRows_30 : decode k_D_byRows 30 = .ok (.iload_n 3, 1) := by decide +kernel
theorem d_D_byRows_31 : decode k_D_byRows 31 = .ok (.invokevirtual 149, 3) := by decide +kernel
theorem d_D_byRows_34 : decode k_D_byRows 34 = .ok (.iconst 2, 1) := by decide +kernel
theorem d_D_byRows_35 : decode k_D_byRows 35 = .ok (.if_icmp .ne 13, 3) := by decide +kernel
theorem d_D_byRows_38 : decode k_D_byRows 38 = .ok (.aload_n 0, 1) := by decide +kernel
theorem d_D_byRows_39 : decode k_D_byRows 39 = .ok (.iload_n 3, 1) := by decide +kernel
theorem d_D_byRows_40 : decode k_D_byRows 40 = .ok (.invokevirtual 162, 3) := by decide +kernel
theorem d_D_byRows_43 : decode k_D_byRows 43 = .ok (.ifCond .eq 5, 3) := by decide +kernel
theorem d_D_byRows_46 : decode k_D_byRows 46 = .ok (.iload_n 3, 1) := by decide +kernel
theorem d_D_byRows_47 : decode k_D_byRows 47 = .ok (.ireturn, 1) := by decide +kernel
theorem d_D_byRows_48 : decode k_D_byRows 48 = .ok (.iinc 3 1, 3) := by decide +kernel
theorem d_D_byRows_51 : decode k_D_byRows 51 = .ok (.goto (-49), 3) := by decide +kernel
theorem d_D_byRows_54 : decode k_D_byRows 54 = .ok (.iconst 0, 1) := by decide +kernel
theorem d_D_byRows_55 : decode k_D_byRows 55 = .ok (.istore_n 3, 1) := by decide +kernel
theorem d_D_byRows_56 : decode k_D_byRows 56 = .ok (.iload_n 3, 1) := by decide +kernel
theorem d_D_byRows_57 : decode k_D_byRows 57 = .ok (.aload_n 0, 1) := by decide +kernel
theorem d_D_byRows_58 : decode k_D_byRows 58 = .ok (.getfield 130, 3) := by decide +kernel
theorem d_D_byRows_61 : decode k_D_byRows 61 = .ok (.if_icmp .ge 48, 3) := by decide +kernel
theorem d_D_byRows_64 : decode k_D_byRows 64 = .ok (.aload_n 0, 1) := by decide +kernel
theorem d_D_byRows_65 : decode k_D_byRows 65 = .ok (.iload_n 3, 1) := by decide +kernel
theorem d_D_byRows_66 : decode k_D_byRows 66 = .ok (.iload_n 1, 1) := by decide +kernel
theorem d_D_byRows_67 : decode k_D_byRows 67 = .ok (.iload_n 2, 1) := by decide +kernel
theorem d_D_byRows_68 : decode k_D_byRows 68 = .ok (.invokevirtual 159, 3) := by decide +kernel
theorem d_D_byRows_71 : decode k_D_byRows 71 = .ok (.ifCond .eq 32, 3) := by decide +kernel
theorem d_D_byRows_74 : decode k_D_byRows 74 = .ok (.aload_n 0, 1) := by decide +kernel
theorem d_D_byRows_75 : decode k_D_byRows 75 = .ok (.iload_n 3, 1) := by decide +kernel
theorem d_D_byRows_76 : decode k_D_byRows 76 = .ok (.invokevirtual 162, 3) := by decide +kernel
theorem d_D_byRows_79 : decode k_D_byRows 79 = .ok (.ifCond .eq 24, 3) := by decide +kernel
theorem d_D_byRows_82 : decode k_D_byRows 82 = .ok (.aload_n 0, 1) := by decide +kernel
theorem d_D_byRows_83 : decode k_D_byRows 83 = .ok (.iload_n 3, 1) := by decide +kernel
theorem d_D_byRows_84 : decode k_D_byRows 84 = .ok (.invokevirtual 149, 3) := by decide +kernel
theorem d_D_byRows_87 : decode k_D_byRows 87 = .ok (.iconst 3, 1) := by decide +kernel
theorem d_D_byRows_88 : decode k_D_byRows 88 = .ok (.if_icmp .ne 13, 3) := by decide +kernel
theorem d_D_byRows_91 : decode k_D_byRows 91 = .ok (.aload_n 0, 1) := by decide +kernel
theorem d_D_byRows_92 : decode k_D_byRows 92 = .ok (.iload_n 3, 1) := by decide +kernel
theorem d_D_byRows_93 : decode k_D_byRows 93 = .ok (.iload_n 1, 1) := by decide +kernel
theorem d_D_byRows_94 : decode k_D_byRows 94 = .ok (.iload_n 2, 1) := by decide +kernel
theorem d_D_byRows_95 : decode k_D_byRows 95 = .ok (.invokevirtual 165, 3) := by decide +kernel
theorem d_D_byRows_98 : decode k_D_byRows 98 = .ok (.ifCond .ne 5, 3) := by decide +kernel
theorem d_D_byRows_101 : decode k_D_byRows 101 = .ok (.iload_n 3, 1) := by decide +kernel
theorem d_D_byRows_102 : decode k_D_byRows 102 = .ok (.ireturn, 1) := by decide +kernel
theorem d_D_byRows_103 : decode k_D_byRows 103 = .ok (.iinc 3 1, 3) := by decide +kernel
theorem d_D_byRows_106 : decode k_D_byRows 106 = .ok (.goto (-50), 3) := by decide +kernel
theorem d_D_byRows_109 : decode k_D_byRows 109 = .ok (.iconst (-1), 1) := by decide +kernel
theorem d_D_byRows_110 : decode k_D_byRows 110 = .ok (.ireturn, 1) := by decide +kernel
