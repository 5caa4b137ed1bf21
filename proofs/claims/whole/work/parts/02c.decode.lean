theorem dX9_init_0 : decode cX9_init 0 = .ok (.aload_n 0, 1) := by decide +kernel
theorem dX9_init_1 : decode cX9_init 1 = .ok (.invokespecial 1, 3) := by decide +kernel
theorem dX9_init_4 : decode cX9_init 4 = .ok (.aload_n 0, 1) := by decide +kernel
theorem dX9_init_5 : decode cX9_init 5 = .ok (.sipush 208, 3) := by decide +kernel
theorem dX9_init_8 : decode cX9_init 8 = .ok (.newarray .int, 2) := by decide +kernel
theorem dX9_init_10 : decode cX9_init 10 = .ok (.putfield 7, 3) := by decide +kernel
theorem dX9_init_13 : decode cX9_init 13 = .ok (.aload_n 0, 1) := by decide +kernel
theorem dX9_init_14 : decode cX9_init 14 = .ok (.iconst 4, 1) := by decide +kernel
theorem dX9_init_15 : decode cX9_init 15 = .ok (.newarray .int, 2) := by decide +kernel
theorem dX9_init_17 : decode cX9_init 17 = .ok (.putfield 13, 3) := by decide +kernel
theorem dX9_init_20 : decode cX9_init 20 = .ok (.aload_n 0, 1) := by decide +kernel
theorem dX9_init_21 : decode cX9_init 21 = .ok (.iconst 4, 1) := by decide +kernel
theorem dX9_init_22 : decode cX9_init 22 = .ok (.newarray .int, 2) := by decide +kernel
theorem dX9_init_24 : decode cX9_init 24 = .ok (.putfield 16, 3) := by decide +kernel
theorem dX9_init_27 : decode cX9_init 27 = .ok (.aload_n 0, 1) := by decide +kernel
theorem dX9_init_28 : decode cX9_init 28 = .ok (.bipush 6, 2) := by decide +kernel
theorem dX9_init_30 : decode cX9_init 30 = .ok (.newarray .int, 2) := by decide +kernel
theorem dX9_init_32 : decode cX9_init 32 = .ok (.putfield 19, 3) := by decide +kernel
theorem dX9_init_35 : decode cX9_init 35 = .ok (.aload_n 0, 1) := by decide +kernel
theorem dX9_init_36 : decode cX9_init 36 = .ok (.bipush 6, 2) := by decide +kernel
theorem dX9_init_38 : decode cX9_init 38 = .ok (.newarray .int, 2) := by decide +kernel
theorem dX9_init_40 : decode cX9_init 40 = .ok (.putfield 22, 3) := by decide +kernel
theorem dX9_init_43 : decode cX9_init 43 = .ok (.aload_n 0, 1) := by decide +kernel
theorem dX9_init_44 : decode cX9_init 44 = .ok (.bipush 6, 2) := by decide +kernel
theorem dX9_init_46 : decode cX9_init 46 = .ok (.newarray .int, 2) := by decide +kernel
theorem dX9_init_48 : decode cX9_init 48 = .ok (.putfield 25, 3) := by decide +kernel
theorem dX9_init_51 : decode cX9_init 51 = .ok (.aload_n 0, 1) := by decide +kernel
theorem dX9_init_52 : decode cX9_init 52 = .ok (.bipush 7, 2) := by decide +kernel
theorem dX9_init_54 : decode cX9_init 54 = .ok (.newarray .int, 2) := by decide +kernel
theorem dX9_init_56 : decode cX9_init 56 = .ok (.putfield 28, 3) := by decide +kernel
theorem dX9_init_59 : decode cX9_init 59 = .ok (.aload_n 0, 1) := by decide +kernel
theorem dX9_init_60 : decode cX9_init 60 = .ok (.bipush 7, 2) := by decide +kernel
theorem dX9_init_62 : decode cX9_init 62 = .ok (.newarray .int, 2) := by decide +kernel
theorem dX9_init_64 : decode cX9_init 64 = .ok (.putfield 31, 3) := by decide +kernel
theorem dX9_init_67 : decode cX9_init 67 = .ok (.aload_n 0, 1) := by decide +kernel
theorem dX9_init_68 : decode cX9_init 68 = .ok (.bipush 7, 2) := by decide +kernel
theorem dX9_init_70 : decode cX9_init 70 = .ok (.newarray .int, 2) := by decide +kernel
theorem dX9_init_72 : decode cX9_init 72 = .ok (.putfield 34, 3) := by decide +kernel
theorem dX9_init_75 : decode cX9_init 75 = .ok (.aload_n 0, 1) := by decide +kernel
theorem dX9_init_76 : decode cX9_init 76 = .ok (.bipush 7, 2) := by decide +kernel
theorem dX9_init_78 : decode cX9_init 78 = .ok (.newarray .int, 2) := by decide +kernel
theorem dX9_init_80 : decode cX9_init 80 = .ok (.putfield 37, 3) := by decide +kernel
theorem dX9_init_83 : decode cX9_init 83 = .ok (.aload_n 0, 1) := by decide +kernel
theorem dX9_init_84 : decode cX9_init 84 = .ok (.bipush 7, 2) := by decide +kernel
theorem dX9_init_86 : decode cX9_init 86 = .ok (.newarray .int, 2) := by decide +kernel
theorem dX9_init_88 : decode cX9_init 88 = .ok (.putfield 40, 3) := by decide +kernel
theorem dX9_init_91 : decode cX9_init 91 = .ok (.aload_n 0, 1) := by decide +kernel
theorem dX9_init_92 : decode cX9_init 92 = .ok (.bipush 7, 2) := by decide +kernel
theorem dX9_init_94 : decode cX9_init 94 = .ok (.newarray .int, 2) := by decide +kernel
theorem dX9_init_96 : decode cX9_init 96 = .ok (.putfield 43, 3) := by decide +kernel
theorem dX9_init_99 : decode cX9_init 99 = .ok (.aload_n 0, 1) := by decide +kernel
theorem dX9_init_100 : decode cX9_init 100 = .ok (.bipush 7, 2) := by decide +kernel
theorem dX9_init_102 : decode cX9_init 102 = .ok (.newarray .int, 2) := by decide +kernel
theorem dX9_init_104 : decode cX9_init 104 = .ok (.putfield 46, 3) := by decide +kernel
theorem dX9_init_107 : decode cX9_init 107 = .ok (.aload_n 0, 1) := by decide +kernel
theorem dX9_init_108 : decode cX9_init 108 = .ok (.bipush 7, 2) := by decide +kernel
theorem dX9_init_110 : decode cX9_init 110 = .ok (.newarray .int, 2) := by decide +kernel
theorem dX9_init_112 : decode cX9_init 112 = .ok (.putfield 49, 3) := by decide +kernel
theorem dX9_init_115 : decode cX9_init 115 = .ok (.aload_n 0, 1) := by decide +kernel
theorem dX9_init_116 : decode cX9_init 116 = .ok (.bipush 7, 2) := by decide +kernel
theorem dX9_init_118 : decode cX9_init 118 = .ok (.newarray .int, 2) := by decide +kernel
theorem dX9_init_120 : decode cX9_init 120 = .ok (.putfield 52, 3) := by decide +kernel
theorem dX9_init_123 : decode cX9_init 123 = .ok (.aload_n 0, 1) := by decide +kernel
theorem dX9_init_124 : decode cX9_init 124 = .ok (.bipush 7, 2) := by decide +kernel
theorem dX9_init_126 : decode cX9_init 126 = .ok (.newarray .int, 2) := by decide +kernel
theorem dX9_init_128 : decode cX9_init 128 = .ok (.putfield 55, 3) := by decide +kernel
theorem dX9_init_131 : decode cX9_init 131 = .ok (.aload_n 0, 1) := by decide +kernel
theorem dX9_init_132 : decode cX9_init 132 = .ok (.bipush 6, 2) := by decide +kernel
theorem dX9_init_134 : decode cX9_init 134 = .ok (.newarray .int, 2) := by decide +kernel
theorem dX9_init_136 : decode cX9_init 136 = .ok (.putfield 58, 3) := by decide +kernel
theorem dX9_init_139 : decode cX9_init 139 = .ok (.aload_n 0, 1) := by decide +kernel
theorem dX9_init_140 : decode cX9_init 140 = .ok (.bipush 24, 2) := by decide +kernel
theorem dX9_init_142 : decode cX9_init 142 = .ok (.newarray .int, 2) := by decide +kernel
theorem dX9_init_144 : decode cX9_init 144 = .ok (.putfield 61, 3) := by decide +kernel
theorem dX9_init_147 : decode cX9_init 147 = .ok (.aload_n 0, 1) := by decide +kernel
theorem dX9_init_148 : decode cX9_init 148 = .ok (.sipush 312, 3) := by decide +kernel
theorem dX9_init_151 : decode cX9_init 151 = .ok (.newarray .boolean, 2) := by decide +kernel
theorem dX9_init_153 : decode cX9_init 153 = .ok (.putfield 64, 3) := by decide +kernel
theorem dX9_init_156 : decode cX9_init 156 = .ok (.aload_n 0, 1) := by decide +kernel
theorem dX9_init_157 : decode cX9_init 157 = .ok (.sipush 500, 3) := by decide +kernel
theorem dX9_init_160 : decode cX9_init 160 = .ok (.newarray .int, 2) := by decide +kernel
theorem dX9_init_162 : decode cX9_init 162 = .ok (.putfield 68, 3) := by decide +kernel
theorem dX9_init_165 : decode cX9_init 165 = .ok (.aload_n 0, 1) := by decide +kernel
theorem dX9_init_166 : decode cX9_init 166 = .ok (.bipush 96, 2) := by decide +kernel
theorem dX9_init_168 : decode cX9_init 168 = .ok (.newarray .int, 2) := by decide +kernel
theorem dX9_init_170 : decode cX9_init 170 = .ok (.putfield 71, 3) := by decide +kernel
theorem dX9_init_173 : decode cX9_init 173 = .ok (.aload_n 0, 1) := by decide +kernel
theorem dX9_init_174 : decode cX9_init 174 = .ok (.iconst (-1), 1) := by decide +kernel
theorem dX9_init_175 : decode cX9_init 175 = .ok (.putfield 74, 3) := by decide +kernel
theorem dX9_init_178 : decode cX9_init 178 = .ok (.aload_n 0, 1) := by decide +kernel
theorem dX9_init_179 : decode cX9_init 179 = .ok (.bipush 7, 2) := by decide +kernel
theorem dX9_init_181 : decode cX9_init 181 = .ok (.newarray .int, 2) := by decide +kernel
theorem dX9_init_183 : decode cX9_init 183 = .ok (.putfield 78, 3) := by decide +kernel
theorem dX9_init_186 : decode cX9_init 186 = .ok (.aload_n 0, 1) := by decide +kernel
theorem dX9_init_187 : decode cX9_init 187 = .ok (.bipush 7, 2) := by decide +kernel
theorem dX9_init_189 : decode cX9_init 189 = .ok (.newarray .int, 2) := by decide +kernel
theorem dX9_init_191 : decode cX9_init 191 = .ok (.putfield 81, 3) := by decide +kernel
theorem dX9_init_194 : decode cX9_init 194 = .ok (.aload_n 0, 1) := by decide +kernel
theorem dX9_init_195 : decode cX9_init 195 = .ok (.sipush 512, 3) := by decide +kernel
theorem dX9_init_198 : decode cX9_init 198 = .ok (.newarray .boolean, 2) := by decide +kernel
theorem dX9_init_200 : decode cX9_init 200 = .ok (.putfield 84, 3) := by decide +kernel
theorem dX9_init_203 : decode cX9_init 203 = .ok (.aload_n 0, 1) := by decide +kernel
theorem dX9_init_204 : decode cX9_init 204 = .ok (.bipush 7, 2) := by decide +kernel
theorem dX9_init_206 : decode cX9_init 206 = .ok (.newarray .int, 2) := by decide +kernel
theorem dX9_init_208 : decode cX9_init 208 = .ok (.putfield 87, 3) := by decide +kernel
theorem dX9_init_211 : decode cX9_init 211 = .ok (.aload_n 0, 1) := by decide +kernel
theorem dX9_init_212 : decode cX9_init 212 = .ok (.bipush 7, 2) := by decide +kernel
theorem dX9_init_214 : decode cX9_init 214 = .ok (.newarray .int, 2) := by decide +kernel
theorem dX9_init_216 : decode cX9_init 216 = .ok (.putfield 90, 3) := by decide +kernel
theorem dX9_init_219 : decode cX9_init 219 = .ok (.aload_n 0, 1) := by decide +kernel
theorem dX9_init_220 : decode cX9_init 220 = .ok (.iconst 4, 1) := by decide +kernel
theorem dX9_init_221 : decode cX9_init 221 = .ok (.newarray .int, 2) := by decide +kernel
theorem dX9_init_223 : decode cX9_init 223 = .ok (.putfield 93, 3) := by decide +kernel
theorem dX9_init_226 : decode cX9_init 226 = .ok (.iconst 0, 1) := by decide +kernel
theorem dX9_init_227 : decode cX9_init 227 = .ok (.istore_n 1, 1) := by decide +kernel
theorem dX9_init_228 : decode cX9_init 228 = .ok (.iload_n 1, 1) := by decide +kernel
theorem dX9_init_229 : decode cX9_init 229 = .ok (.sipush 208, 3) := by decide +kernel
theorem dX9_init_232 : decode cX9_init 232 = .ok (.if_icmp .ge 17, 3) := by decide +kernel
theorem dX9_init_235 : decode cX9_init 235 = .ok (.aload_n 0, 1) := by decide +kernel
theorem dX9_init_236 : decode cX9_init 236 = .ok (.getfield 7, 3) := by decide +kernel
theorem dX9_init_239 : decode cX9_init 239 = .ok (.iload_n 1, 1) := by decide +kernel
theorem dX9_init_240 : decode cX9_init 240 = .ok (.bipush 40, 2) := by decide +kernel
theorem dX9_init_242 : decode cX9_init 242 = .ok (.iastore, 1) := by decide +kernel
theorem dX9_init_243 : decode cX9_init 243 = .ok (.iinc 1 1, 3) := by decide +kernel
theorem dX9_init_246 : decode cX9_init 246 = .ok (.goto (-18), 3) := by decide +kernel
theorem dX9_init_249 : decode cX9_init 249 = .ok (.iconst 0, 1) := by decide +kernel
theorem dX9_init_250 : decode cX9_init 250 = .ok (.istore_n 1, 1) := by decide +kernel
theorem dX9_init_251 : decode cX9_init 251 = .ok (.iload_n 1, 1) := by decide +kernel
theorem dX9_init_252 : decode cX9_init 252 = .ok (.bipush 6, 2) := by decide +kernel
theorem dX9_init_254 : decode cX9_init 254 = .ok (.if_icmp .ge 30, 3) := by decide +kernel
theorem dX9_init_257 : decode cX9_init 257 = .ok (.aload_n 0, 1) := by decide +kernel
theorem dX9_init_258 : decode cX9_init 258 = .ok (.getfield 19, 3) := by decide +kernel
theorem dX9_init_261 : decode cX9_init 261 = .ok (.iload_n 1, 1) := by decide +kernel
theorem dX9_init_262 : decode cX9_init 262 = .ok (.iconst 5, 1) := by decide +kernel
theorem dX9_init_263 : decode cX9_init 263 = .ok (.iastore, 1) := by decide +kernel
theorem dX9_init_264 : decode cX9_init 264 = .ok (.aload_n 0, 1) := by decide +kernel
theorem dX9_init_265 : decode cX9_init 265 = .ok (.getfield 22, 3) := by decide +kernel
theorem dX9_init_268 : decode cX9_init 268 = .ok (.iload_n 1, 1) := by decide +kernel
theorem dX9_init_269 : decode cX9_init 269 = .ok (.iconst 2, 1) := by decide +kernel
theorem dX9_init_270 : decode cX9_init 270 = .ok (.iastore, 1) := by decide +kernel
theorem dX9_init_271 : decode cX9_init 271 = .ok (.aload_n 0, 1) := by decide +kernel
theorem dX9_init_272 : decode cX9_init 272 = .ok (.getfield 58, 3) := by decide +kernel
theorem dX9_init_275 : decode cX9_init 275 = .ok (.iload_n 1, 1) := by decide +kernel
theorem dX9_init_276 : decode cX9_init 276 = .ok (.iconst (-1), 1) := by decide +kernel
theorem dX9_init_277 : decode cX9_init 277 = .ok (.iastore, 1) := by decide +kernel
theorem dX9_init_278 : decode cX9_init 278 = .ok (.iinc 1 1, 3) := by decide +kernel
theorem dX9_init_281 : decode cX9_init 281 = .ok (.goto (-30), 3) := by decide +kernel
theorem dX9_init_284 : decode cX9_init 284 = .ok (.iconst 0, 1) := by decide +kernel
theorem dX9_init_285 : decode cX9_init 285 = .ok (.istore_n 1, 1) := by decide +kernel
theorem dX9_init_286 : decode cX9_init 286 = .ok (.iload_n 1, 1) := by decide +kernel
theorem dX9_init_287 : decode cX9_init 287 = .ok (.bipush 24, 2) := by decide +kernel
theorem dX9_init_289 : decode cX9_init 289 = .ok (.if_icmp .ge 16, 3) := by decide +kernel
theorem dX9_init_292 : decode cX9_init 292 = .ok (.aload_n 0, 1) := by decide +kernel
theorem dX9_init_293 : decode cX9_init 293 = .ok (.getfield 61, 3) := by decide +kernel
theorem dX9_init_296 : decode cX9_init 296 = .ok (.iload_n 1, 1) := by decide +kernel
theorem dX9_init_297 : decode cX9_init 297 = .ok (.iconst (-1), 1) := by decide +kernel
theorem dX9_init_298 : decode cX9_init 298 = .ok (.iastore, 1) := by decide +kernel
theorem dX9_init_299 : decode cX9_init 299 = .ok (.iinc 1 1, 3) := by decide +kernel
theorem dX9_init_302 : decode cX9_init 302 = .ok (.goto (-16), 3) := by decide +kernel
theorem dX9_init_305 : decode cX9_init 305 = .ok (.return_, 1) := by decide +kernel
theorem dX9_isIn_0 : decode cX9_isIn 0 = .ok (.iload_n 0, 1) := by decide +kernel
theorem dX9_isIn_1 : decode cX9_isIn 1 = .ok (.iload_n 1, 1) := by decide +kernel
theorem dX9_isIn_2 : decode cX9_isIn 2 = .ok (.if_icmp .lt 12, 3) := by decide +kernel
theorem dX9_isIn_5 : decode cX9_isIn 5 = .ok (.iload_n 0, 1) := by decide +kernel
theorem dX9_isIn_6 : decode cX9_isIn 6 = .ok (.iload_n 2, 1) := by decide +kernel
theorem dX9_isIn_7 : decode cX9_isIn 7 = .ok (.if_icmp .gt 7, 3) := by decide +kernel
theorem dX9_isIn_10 : decode cX9_isIn 10 = .ok (.iconst 1, 1) := by decide +kernel
theorem dX9_isIn_11 : decode cX9_isIn 11 = .ok (.goto 4, 3) := by decide +kernel
theorem dX9_isIn_14 : decode cX9_isIn 14 = .ok (.iconst 0, 1) := by decide +kernel
theorem dX9_isIn_15 : decode cX9_isIn 15 = .ok (.ireturn, 1) := by decide +kernel
theorem dX9_isFamily_0 : decode cX9_isFamily 0 = .ok (.iload_n 0, 1) := by decide +kernel
theorem dX9_isFamily_1 : decode cX9_isFamily 1 = .ok (.iconst 0, 1) := by decide +kernel
theorem dX9_isFamily_2 : decode cX9_isFamily 2 = .ok (.iconst 3, 1) := by decide +kernel
theorem dX9_isFamily_3 : decode cX9_isFamily 3 = .ok (.invokestatic 96, 3) := by decide +kernel
theorem dX9_isFamily_6 : decode cX9_isFamily 6 = .ok (.ireturn, 1) := by decide +kernel
theorem dX9_isPattern_0 : decode cX9_isPattern 0 = .ok (.iload_n 0, 1) := by decide +kernel
theorem dX9_isPattern_1 : decode cX9_isPattern 1 = .ok (.iconst 0, 1) := by decide +kernel
theorem dX9_isPattern_2 : decode cX9_isPattern 2 = .ok (.iconst 5, 1) := by decide +kernel
theorem dX9_isPattern_3 : decode cX9_isPattern 3 = .ok (.invokestatic 96, 3) := by decide +kernel
theorem dX9_isPattern_6 : decode cX9_isPattern 6 = .ok (.ireturn, 1) := by decide +kernel
theorem dX9_isWeek_0 : decode cX9_isWeek 0 = .ok (.iload_n 0, 1) := by decide +kernel
theorem dX9_isWeek_1 : decode cX9_isWeek 1 = .ok (.iload_n 1, 1) := by decide +kernel
theorem dX9_isWeek_2 : decode cX9_isWeek 2 = .ok (.bipush 51, 2) := by decide +kernel
theorem dX9_isWeek_4 : decode cX9_isWeek 4 = .ok (.invokestatic 96, 3) := by decide +kernel
theorem dX9_isWeek_7 : decode cX9_isWeek 7 = .ok (.ireturn, 1) := by decide +kernel
theorem dX9_hours_0 : decode cX9_hours 0 = .ok (.iload_n 1, 1) := by decide +kernel
theorem dX9_hours_1 : decode cX9_hours 1 = .ok (.invokestatic 100, 3) := by decide +kernel
theorem dX9_hours_4 : decode cX9_hours 4 = .ok (.ifCond .eq 24, 3) := by decide +kernel
theorem dX9_hours_7 : decode cX9_hours 7 = .ok (.iload_n 2, 1) := by decide +kernel
theorem dX9_hours_8 : decode cX9_hours 8 = .ok (.aload_n 0, 1) := by decide +kernel
theorem dX9_hours_9 : decode cX9_hours 9 = .ok (.getfield 104, 3) := by decide +kernel
theorem dX9_hours_12 : decode cX9_hours 12 = .ok (.invokestatic 107, 3) := by decide +kernel
theorem dX9_hours_15 : decode cX9_hours 15 = .ok (.ifCond .eq 13, 3) := by decide +kernel
theorem dX9_hours_18 : decode cX9_hours 18 = .ok (.iload_n 3, 1) := by decide +kernel
theorem dX9_hours_19 : decode cX9_hours 19 = .ok (.iconst 0, 1) := by decide +kernel
theorem dX9_hours_20 : decode cX9_hours 20 = .ok (.bipush 99, 2) := by decide +kernel
theorem dX9_hours_22 : decode cX9_hours 22 = .ok (.invokestatic 96, 3) := by decide +kernel
theorem dX9_hours_25 : decode cX9_hours 25 = .ok (.ifCond .ne 5, 3) := by decide +kernel
theorem dX9_hours_28 : decode cX9_hours 28 = .ok (.iconst 0, 1) := by decide +kernel
theorem dX9_hours_29 : decode cX9_hours 29 = .ok (.ireturn, 1) := by decide +kernel
theorem dX9_hours_30 : decode cX9_hours 30 = .ok (.aload_n 0, 1) := by decide +kernel
theorem dX9_hours_31 : decode cX9_hours 31 = .ok (.getfield 7, 3) := by decide +kernel
theorem dX9_hours_34 : decode cX9_hours 34 = .ok (.bipush 52, 2) := by decide +kernel
theorem dX9_hours_36 : decode cX9_hours 36 = .ok (.iload_n 1, 1) := by decide +kernel
theorem dX9_hours_37 : decode cX9_hours 37 = .ok (.imul, 1) := by decide +kernel
theorem dX9_hours_38 : decode cX9_hours 38 = .ok (.iload_n 2, 1) := by decide +kernel
theorem dX9_hours_39 : decode cX9_hours 39 = .ok (.iadd, 1) := by decide +kernel
theorem dX9_hours_40 : decode cX9_hours 40 = .ok (.iload_n 3, 1) := by decide +kernel
theorem dX9_hours_41 : decode cX9_hours 41 = .ok (.iastore, 1) := by decide +kernel
theorem dX9_hours_42 : decode cX9_hours 42 = .ok (.iconst 1, 1) := by decide +kernel
theorem dX9_hours_43 : decode cX9_hours 43 = .ok (.ireturn, 1) := by decide +kernel
theorem dX9_counts_0 : decode cX9_counts 0 = .ok (.aload_n 0, 1) := by decide +kernel
theorem dX9_counts_1 : decode cX9_counts 1 = .ok (.getfield 28, 3) := by decide +kernel
theorem dX9_counts_4 : decode cX9_counts 4 = .ok (.iload_n 1, 1) := by decide +kernel
theorem dX9_counts_5 : decode cX9_counts 5 = .ok (.iaload, 1) := by decide +kernel
theorem dX9_counts_6 : decode cX9_counts 6 = .ok (.istore_n 2, 1) := by decide +kernel
theorem dX9_counts_7 : decode cX9_counts 7 = .ok (.aload_n 0, 1) := by decide +kernel
theorem dX9_counts_8 : decode cX9_counts 8 = .ok (.getfield 31, 3) := by decide +kernel
theorem dX9_counts_11 : decode cX9_counts 11 = .ok (.iload_n 1, 1) := by decide +kernel
theorem dX9_counts_12 : decode cX9_counts 12 = .ok (.iaload, 1) := by decide +kernel
theorem dX9_counts_13 : decode cX9_counts 13 = .ok (.istore_n 3, 1) := by decide +kernel
theorem dX9_counts_14 : decode cX9_counts 14 = .ok (.iload_n 3, 1) := by decide +kernel
theorem dX9_counts_15 : decode cX9_counts 15 = .ok (.iload_n 3, 1) := by decide +kernel
theorem dX9_counts_16 : decode cX9_counts 16 = .ok (.aload_n 0, 1) := by decide +kernel
theorem dX9_counts_17 : decode cX9_counts 17 = .ok (.getfield 25, 3) := by decide +kernel
theorem dX9_counts_20 : decode cX9_counts 20 = .ok (.iload_n 2, 1) := by decide +kernel
theorem dX9_counts_21 : decode cX9_counts 21 = .ok (.iaload, 1) := by decide +kernel
theorem dX9_counts_22 : decode cX9_counts 22 = .ok (.imul, 1) := by decide +kernel
theorem dX9_counts_23 : decode cX9_counts 23 = .ok (.bipush 99, 2) := by decide +kernel
theorem dX9_counts_25 : decode cX9_counts 25 = .ok (.iadd, 1) := by decide +kernel
theorem dX9_counts_26 : decode cX9_counts 26 = .ok (.bipush 100, 2) := by decide +kernel
theorem dX9_counts_28 : decode cX9_counts 28 = .ok (.idiv, 1) := by decide +kernel
theorem dX9_counts_29 : decode cX9_counts 29 = .ok (.isub, 1) := by decide +kernel
theorem dX9_counts_30 : decode cX9_counts 30 = .ok (.aload_n 0, 1) := by decide +kernel
theorem dX9_counts_31 : decode cX9_counts 31 = .ok (.getfield 31, 3) := by decide +kernel
theorem dX9_counts_34 : decode cX9_counts 34 = .ok (.iload_n 1, 1) := by decide +kernel
theorem dX9_counts_35 : decode cX9_counts 35 = .ok (.iaload, 1) := by decide +kernel
theorem dX9_counts_36 : decode cX9_counts 36 = .ok (.if_icmp .ge 9, 3) := by decide +kernel
theorem dX9_counts_39 : decode cX9_counts 39 = .ok (.iinc 3 1, 3) := by decide +kernel
theorem dX9_counts_42 : decode cX9_counts 42 = .ok (.goto (-28), 3) := by decide +kernel
theorem dX9_counts_45 : decode cX9_counts 45 = .ok (.aload_n 0, 1) := by decide +kernel
theorem dX9_counts_46 : decode cX9_counts 46 = .ok (.getfield 40, 3) := by decide +kernel
theorem dX9_counts_49 : decode cX9_counts 49 = .ok (.iload_n 1, 1) := by decide +kernel
theorem dX9_counts_50 : decode cX9_counts 50 = .ok (.iload_n 3, 1) := by decide +kernel
theorem dX9_counts_51 : decode cX9_counts 51 = .ok (.iastore, 1) := by decide +kernel
theorem dX9_counts_52 : decode cX9_counts 52 = .ok (.aload_n 0, 1) := by decide +kernel
theorem dX9_counts_53 : decode cX9_counts 53 = .ok (.getfield 43, 3) := by decide +kernel
theorem dX9_counts_56 : decode cX9_counts 56 = .ok (.iload_n 1, 1) := by decide +kernel
theorem dX9_counts_57 : decode cX9_counts 57 = .ok (.iload_n 3, 1) := by decide +kernel
theorem dX9_counts_58 : decode cX9_counts 58 = .ok (.aload_n 0, 1) := by decide +kernel
theorem dX9_counts_59 : decode cX9_counts 59 = .ok (.getfield 19, 3) := by decide +kernel
theorem dX9_counts_62 : decode cX9_counts 62 = .ok (.iload_n 2, 1) := by decide +kernel
theorem dX9_counts_63 : decode cX9_counts 63 = .ok (.iaload, 1) := by decide +kernel
theorem dX9_counts_64 : decode cX9_counts 64 = .ok (.imul, 1) := by decide +kernel
theorem dX9_counts_65 : decode cX9_counts 65 = .ok (.iastore, 1) := by decide +kernel
theorem dX9_counts_66 : decode cX9_counts 66 = .ok (.aload_n 0, 1) := by decide +kernel
theorem dX9_counts_67 : decode cX9_counts 67 = .ok (.getfield 46, 3) := by decide +kernel
theorem dX9_counts_70 : decode cX9_counts 70 = .ok (.iload_n 1, 1) := by decide +kernel
theorem dX9_counts_71 : decode cX9_counts 71 = .ok (.iload_n 3, 1) := by decide +kernel
theorem dX9_counts_72 : decode cX9_counts 72 = .ok (.aload_n 0, 1) := by decide +kernel
theorem dX9_counts_73 : decode cX9_counts 73 = .ok (.getfield 22, 3) := by decide +kernel
theorem dX9_counts_76 : decode cX9_counts 76 = .ok (.iload_n 2, 1) := by decide +kernel
theorem dX9_counts_77 : decode cX9_counts 77 = .ok (.iaload, 1) := by decide +kernel
theorem dX9_counts_78 : decode cX9_counts 78 = .ok (.imul, 1) := by decide +kernel
theorem dX9_counts_79 : decode cX9_counts 79 = .ok (.iastore, 1) := by decide +kernel
theorem dX9_counts_80 : decode cX9_counts 80 = .ok (.aload_n 0, 1) := by decide +kernel
theorem dX9_counts_81 : decode cX9_counts 81 = .ok (.getfield 52, 3) := by decide +kernel
theorem dX9_counts_84 : decode cX9_counts 84 = .ok (.iload_n 1, 1) := by decide +kernel
theorem dX9_counts_85 : decode cX9_counts 85 = .ok (.iconst 0, 1) := by decide +kernel
theorem dX9_counts_86 : decode cX9_counts 86 = .ok (.iastore, 1) := by decide +kernel
theorem dX9_counts_87 : decode cX9_counts 87 = .ok (.aload_n 0, 1) := by decide +kernel
theorem dX9_counts_88 : decode cX9_counts 88 = .ok (.getfield 55, 3) := by decide +kernel
theorem dX9_counts_91 : decode cX9_counts 91 = .ok (.iload_n 1, 1) := by decide +kernel
theorem dX9_counts_92 : decode cX9_counts 92 = .ok (.iconst (-1), 1) := by decide +kernel
theorem dX9_counts_93 : decode cX9_counts 93 = .ok (.iastore, 1) := by decide +kernel
theorem dX9_counts_94 : decode cX9_counts 94 = .ok (.return_, 1) := by decide +kernel
theorem dX9_isOpen_0 : decode cX9_isOpen 0 = .ok (.iload_n 1, 1) := by decide +kernel
theorem dX9_isOpen_1 : decode cX9_isOpen 1 = .ok (.iconst 0, 1) := by decide +kernel
theorem dX9_isOpen_2 : decode cX9_isOpen 2 = .ok (.aload_n 0, 1) := by decide +kernel
theorem dX9_isOpen_3 : decode cX9_isOpen 3 = .ok (.getfield 111, 3) := by decide +kernel
theorem dX9_isOpen_6 : decode cX9_isOpen 6 = .ok (.iconst 1, 1) := by decide +kernel
theorem dX9_isOpen_7 : decode cX9_isOpen 7 = .ok (.isub, 1) := by decide +kernel
theorem dX9_isOpen_8 : decode cX9_isOpen 8 = .ok (.invokestatic 96, 3) := by decide +kernel
theorem dX9_isOpen_11 : decode cX9_isOpen 11 = .ok (.ifCond .eq 16, 3) := by decide +kernel
theorem dX9_isOpen_14 : decode cX9_isOpen 14 = .ok (.aload_n 0, 1) := by decide +kernel
theorem dX9_isOpen_15 : decode cX9_isOpen 15 = .ok (.getfield 49, 3) := by decide +kernel
theorem dX9_isOpen_18 : decode cX9_isOpen 18 = .ok (.iload_n 1, 1) := by decide +kernel
theorem dX9_isOpen_19 : decode cX9_isOpen 19 = .ok (.iaload, 1) := by decide +kernel
theorem dX9_isOpen_20 : decode cX9_isOpen 20 = .ok (.ifCond .ne 7, 3) := by decide +kernel
theorem dX9_isOpen_23 : decode cX9_isOpen 23 = .ok (.iconst 1, 1) := by decide +kernel
theorem dX9_isOpen_24 : decode cX9_isOpen 24 = .ok (.goto 4, 3) := by decide +kernel
theorem dX9_isOpen_27 : decode cX9_isOpen 27 = .ok (.iconst 0, 1) := by decide +kernel
theorem dX9_isOpen_28 : decode cX9_isOpen 28 = .ok (.ireturn, 1) := by decide +kernel
theorem dX9_pattern_0 : decode cX9_pattern 0 = .ok (.iload_n 1, 1) := by decide +kernel
theorem dX9_pattern_1 : decode cX9_pattern 1 = .ok (.invokestatic 114, 3) := by decide +kernel
theorem dX9_pattern_4 : decode cX9_pattern 4 = .ok (.ifCond .eq 34, 3) := by decide +kernel
theorem dX9_pattern_7 : decode cX9_pattern 7 = .ok (.iload_n 2, 1) := by decide +kernel
theorem dX9_pattern_8 : decode cX9_pattern 8 = .ok (.iconst 1, 1) := by decide +kernel
theorem dX9_pattern_9 : decode cX9_pattern 9 = .ok (.bipush 30, 2) := by decide +kernel
theorem dX9_pattern_11 : decode cX9_pattern 11 = .ok (.invokestatic 96, 3) := by decide +kernel
theorem dX9_pattern_14 : decode cX9_pattern 14 = .ok (.ifCond .eq 24, 3) := by decide +kernel
theorem dX9_pattern_17 : decode cX9_pattern 17 = .ok (.iload_n 3, 1) := by decide +kernel
theorem dX9_pattern_18 : decode cX9_pattern 18 = .ok (.iconst 0, 1) := by decide +kernel
theorem dX9_pattern_19 : decode cX9_pattern 19 = .ok (.bipush 20, 2) := by decide +kernel
theorem dX9_pattern_21 : decode cX9_pattern 21 = .ok (.invokestatic 96, 3) := by decide +kernel
theorem dX9_pattern_24 : decode cX9_pattern 24 = .ok (.ifCond .eq 14, 3) := by decide +kernel
theorem dX9_pattern_27 : decode cX9_pattern 27 = .ok (.iload 4, 2) := by decide +kernel
theorem dX9_pattern_29 : decode cX9_pattern 29 = .ok (.iconst 0, 1) := by decide +kernel
theorem dX9_pattern_30 : decode cX9_pattern 30 = .ok (.bipush 90, 2) := by decide +kernel
theorem dX9_pattern_32 : decode cX9_pattern 32 = .ok (.invokestatic 96, 3) := by decide +kernel
theorem dX9_pattern_35 : decode cX9_pattern 35 = .ok (.ifCond .ne 5, 3) := by decide +kernel
theorem dX9_pattern_38 : decode cX9_pattern 38 = .ok (.iconst 0, 1) := by decide +kernel
theorem dX9_pattern_39 : decode cX9_pattern 39 = .ok (.ireturn, 1) := by decide +kernel
theorem dX9_pattern_40 : decode cX9_pattern 40 = .ok (.aload_n 0, 1) := by decide +kernel
theorem dX9_pattern_41 : decode cX9_pattern 41 = .ok (.getfield 19, 3) := by decide +kernel
theorem dX9_pattern_44 : decode cX9_pattern 44 = .ok (.iload_n 1, 1) := by decide +kernel
theorem dX9_pattern_45 : decode cX9_pattern 45 = .ok (.iload_n 2, 1) := by decide +kernel
theorem dX9_pattern_46 : decode cX9_pattern 46 = .ok (.iastore, 1) := by decide +kernel
theorem dX9_pattern_47 : decode cX9_pattern 47 = .ok (.aload_n 0, 1) := by decide +kernel
theorem dX9_pattern_48 : decode cX9_pattern 48 = .ok (.getfield 22, 3) := by decide +kernel
theorem dX9_pattern_51 : decode cX9_pattern 51 = .ok (.iload_n 1, 1) := by decide +kernel
theorem dX9_pattern_52 : decode cX9_pattern 52 = .ok (.iload_n 3, 1) := by decide +kernel
theorem dX9_pattern_53 : decode cX9_pattern 53 = .ok (.iastore, 1) := by decide +kernel
theorem dX9_pattern_54 : decode cX9_pattern 54 = .ok (.aload_n 0, 1) := by decide +kernel
theorem dX9_pattern_55 : decode cX9_pattern 55 = .ok (.getfield 25, 3) := by decide +kernel
theorem dX9_pattern_58 : decode cX9_pattern 58 = .ok (.iload_n 1, 1) := by decide +kernel
theorem dX9_pattern_59 : decode cX9_pattern 59 = .ok (.iload 4, 2) := by decide +kernel
theorem dX9_pattern_61 : decode cX9_pattern 61 = .ok (.iastore, 1) := by decide +kernel
theorem dX9_pattern_62 : decode cX9_pattern 62 = .ok (.iconst 0, 1) := by decide +kernel
theorem dX9_pattern_63 : decode cX9_pattern 63 = .ok (.istore 5, 2) := by decide +kernel
theorem dX9_pattern_65 : decode cX9_pattern 65 = .ok (.iload 5, 2) := by decide +kernel
theorem dX9_pattern_67 : decode cX9_pattern 67 = .ok (.aload_n 0, 1) := by decide +kernel
theorem dX9_pattern_68 : decode cX9_pattern 68 = .ok (.getfield 111, 3) := by decide +kernel
theorem dX9_pattern_71 : decode cX9_pattern 71 = .ok (.if_icmp .ge 35, 3) := by decide +kernel
theorem dX9_pattern_74 : decode cX9_pattern 74 = .ok (.aload_n 0, 1) := by decide +kernel
theorem dX9_pattern_75 : decode cX9_pattern 75 = .ok (.iload 5, 2) := by decide +kernel
theorem dX9_pattern_77 : decode cX9_pattern 77 = .ok (.invokevirtual 117, 3) := by decide +kernel
theorem dX9_pattern_80 : decode cX9_pattern 80 = .ok (.ifCond .eq 20, 3) := by decide +kernel
theorem dX9_pattern_83 : decode cX9_pattern 83 = .ok (.aload_n 0, 1) := by decide +kernel
theorem dX9_pattern_84 : decode cX9_pattern 84 = .ok (.getfield 28, 3) := by decide +kernel
theorem dX9_pattern_87 : decode cX9_pattern 87 = .ok (.iload 5, 2) := by decide +kernel
theorem dX9_pattern_89 : decode cX9_pattern 89 = .ok (.iaload, 1) := by decide +kernel
theorem dX9_pattern_90 : decode cX9_pattern 90 = .ok (.iload_n 1, 1) := by decide +kernel
theorem dX9_pattern_91 : decode cX9_pattern 91 = .ok (.if_icmp .ne 9, 3) := by decide +kernel
theorem dX9_pattern_94 : decode cX9_pattern 94 = .ok (.aload_n 0, 1) := by decide +kernel
theorem dX9_pattern_95 : decode cX9_pattern 95 = .ok (.iload 5, 2) := by decide +kernel
theorem dX9_pattern_97 : decode cX9_pattern 97 = .ok (.invokevirtual 120, 3) := by decide +kernel
theorem dX9_pattern_100 : decode cX9_pattern 100 = .ok (.iinc 5 1, 3) := by decide +kernel
theorem dX9_pattern_103 : decode cX9_pattern 103 = .ok (.goto (-38), 3) := by decide +kernel
theorem dX9_pattern_106 : decode cX9_pattern 106 = .ok (.iconst 1, 1) := by decide +kernel
theorem dX9_pattern_107 : decode cX9_pattern 107 = .ok (.ireturn, 1) := by decide +kernel
theorem dX9_lend_0 : decode cX9_lend 0 = .ok (.iload_n 1, 1) := by decide +kernel
theorem dX9_lend_1 : decode cX9_lend 1 = .ok (.invokestatic 100, 3) := by decide +kernel
theorem dX9_lend_4 : decode cX9_lend 4 = .ok (.ifCond .eq 27, 3) := by decide +kernel
theorem dX9_lend_7 : decode cX9_lend 7 = .ok (.iload_n 2, 1) := by decide +kernel
theorem dX9_lend_8 : decode cX9_lend 8 = .ok (.iconst 1, 1) := by decide +kernel
theorem dX9_lend_9 : decode cX9_lend 9 = .ok (.sipush 9999, 3) := by decide +kernel
theorem dX9_lend_12 : decode cX9_lend 12 = .ok (.invokestatic 96, 3) := by decide +kernel
theorem dX9_lend_15 : decode cX9_lend 15 = .ok (.ifCond .eq 16, 3) := by decide +kernel
theorem dX9_lend_18 : decode cX9_lend 18 = .ok (.aload_n 0, 1) := by decide +kernel
theorem dX9_lend_19 : decode cX9_lend 19 = .ok (.getfield 13, 3) := by decide +kernel
theorem dX9_lend_22 : decode cX9_lend 22 = .ok (.iload_n 1, 1) := by decide +kernel
theorem dX9_lend_23 : decode cX9_lend 23 = .ok (.iaload, 1) := by decide +kernel
theorem dX9_lend_24 : decode cX9_lend 24 = .ok (.iload_n 2, 1) := by decide +kernel
theorem dX9_lend_25 : decode cX9_lend 25 = .ok (.iadd, 1) := by decide +kernel
theorem dX9_lend_26 : decode cX9_lend 26 = .ok (.ldc 124, 2) := by decide +kernel
theorem dX9_lend_28 : decode cX9_lend 28 = .ok (.if_icmp .le 5, 3) := by decide +kernel
theorem dX9_lend_31 : decode cX9_lend 31 = .ok (.iconst 0, 1) := by decide +kernel
theorem dX9_lend_32 : decode cX9_lend 32 = .ok (.ireturn, 1) := by decide +kernel
theorem dX9_lend_33 : decode cX9_lend 33 = .ok (.aload_n 0, 1) := by decide +kernel
theorem dX9_lend_34 : decode cX9_lend 34 = .ok (.getfield 13, 3) := by decide +kernel
theorem dX9_lend_37 : decode cX9_lend 37 = .ok (.iload_n 1, 1) := by decide +kernel
theorem dX9_lend_38 : decode cX9_lend 38 = .ok (.dup2, 1) := by decide +kernel
theorem dX9_lend_39 : decode cX9_lend 39 = .ok (.iaload, 1) := by decide +kernel
theorem dX9_lend_40 : decode cX9_lend 40 = .ok (.iload_n 2, 1) := by decide +kernel
theorem dX9_lend_41 : decode cX9_lend 41 = .ok (.iadd, 1) := by decide +kernel
theorem dX9_lend_42 : decode cX9_lend 42 = .ok (.iastore, 1) := by decide +kernel
theorem dX9_lend_43 : decode cX9_lend 43 = .ok (.iconst 1, 1) := by decide +kernel
theorem dX9_lend_44 : decode cX9_lend 44 = .ok (.ireturn, 1) := by decide +kernel
theorem dX9_bring_0 : decode cX9_bring 0 = .ok (.iload_n 1, 1) := by decide +kernel
theorem dX9_bring_1 : decode cX9_bring 1 = .ok (.invokestatic 100, 3) := by decide +kernel
theorem dX9_bring_4 : decode cX9_bring 4 = .ok (.ifCond .ne 5, 3) := by decide +kernel
theorem dX9_bring_7 : decode cX9_bring 7 = .ok (.iconst (-1), 1) := by decide +kernel
theorem dX9_bring_8 : decode cX9_bring 8 = .ok (.ireturn, 1) := by decide +kernel
theorem dX9_bring_9 : decode cX9_bring 9 = .ok (.aload_n 0, 1) := by decide +kernel
theorem dX9_bring_10 : decode cX9_bring 10 = .ok (.getfield 13, 3) := by decide +kernel
theorem dX9_bring_13 : decode cX9_bring 13 = .ok (.iload_n 1, 1) := by decide +kernel
theorem dX9_bring_14 : decode cX9_bring 14 = .ok (.iaload, 1) := by decide +kernel
theorem dX9_bring_15 : decode cX9_bring 15 = .ok (.istore_n 2, 1) := by decide +kernel
theorem dX9_bring_16 : decode cX9_bring 16 = .ok (.aload_n 0, 1) := by decide +kernel
theorem dX9_bring_17 : decode cX9_bring 17 = .ok (.getfield 13, 3) := by decide +kernel
theorem dX9_bring_20 : decode cX9_bring 20 = .ok (.iload_n 1, 1) := by decide +kernel
theorem dX9_bring_21 : decode cX9_bring 21 = .ok (.iconst 0, 1) := by decide +kernel
theorem dX9_bring_22 : decode cX9_bring 22 = .ok (.iastore, 1) := by decide +kernel
theorem dX9_bring_23 : decode cX9_bring 23 = .ok (.iload_n 2, 1) := by decide +kernel
theorem dX9_bring_24 : decode cX9_bring 24 = .ok (.ireturn, 1) := by decide +kernel
theorem dX9_order_0 : decode cX9_order 0 = .ok (.iload_n 1, 1) := by decide +kernel
theorem dX9_order_1 : decode cX9_order 1 = .ok (.invokestatic 114, 3) := by decide +kernel
theorem dX9_order_4 : decode cX9_order 4 = .ok (.ifCond .eq 45, 3) := by decide +kernel
theorem dX9_order_7 : decode cX9_order 7 = .ok (.iload_n 2, 1) := by decide +kernel
theorem dX9_order_8 : decode cX9_order 8 = .ok (.iconst 1, 1) := by decide +kernel
theorem dX9_order_9 : decode cX9_order 9 = .ok (.bipush 20, 2) := by decide +kernel
theorem dX9_order_11 : decode cX9_order 11 = .ok (.invokestatic 96, 3) := by decide +kernel
theorem dX9_order_14 : decode cX9_order 14 = .ok (.ifCond .eq 35, 3) := by decide +kernel
theorem dX9_order_17 : decode cX9_order 17 = .ok (.iload_n 3, 1) := by decide +kernel
theorem dX9_order_18 : decode cX9_order 18 = .ok (.aload_n 0, 1) := by decide +kernel
theorem dX9_order_19 : decode cX9_order 19 = .ok (.getfield 104, 3) := by decide +kernel
theorem dX9_order_22 : decode cX9_order 22 = .ok (.invokestatic 107, 3) := by decide +kernel
theorem dX9_order_25 : decode cX9_order 25 = .ok (.ifCond .eq 24, 3) := by decide +kernel
theorem dX9_order_28 : decode cX9_order 28 = .ok (.iload 4, 2) := by decide +kernel
theorem dX9_order_30 : decode cX9_order 30 = .ok (.iconst 1, 1) := by decide +kernel
theorem dX9_order_31 : decode cX9_order 31 = .ok (.sipush 9999, 3) := by decide +kernel
theorem dX9_order_34 : decode cX9_order 34 = .ok (.invokestatic 96, 3) := by decide +kernel
theorem dX9_order_37 : decode cX9_order 37 = .ok (.ifCond .eq 12, 3) := by decide +kernel
theorem dX9_order_40 : decode cX9_order 40 = .ok (.aload_n 0, 1) := by decide +kernel
theorem dX9_order_41 : decode cX9_order 41 = .ok (.getfield 111, 3) := by decide +kernel
theorem dX9_order_44 : decode cX9_order 44 = .ok (.bipush 7, 2) := by decide +kernel
theorem dX9_order_46 : decode cX9_order 46 = .ok (.if_icmp .ne 5, 3) := by decide +kernel
theorem dX9_order_49 : decode cX9_order 49 = .ok (.iconst (-1), 1) := by decide +kernel
theorem dX9_order_50 : decode cX9_order 50 = .ok (.ireturn, 1) := by decide +kernel
theorem dX9_order_51 : decode cX9_order 51 = .ok (.aload_n 0, 1) := by decide +kernel
theorem dX9_order_52 : decode cX9_order 52 = .ok (.getfield 111, 3) := by decide +kernel
theorem dX9_order_55 : decode cX9_order 55 = .ok (.istore 5, 2) := by decide +kernel
theorem dX9_order_57 : decode cX9_order 57 = .ok (.aload_n 0, 1) := by decide +kernel
theorem dX9_order_58 : decode cX9_order 58 = .ok (.dup, 1) := by decide +kernel
theorem dX9_order_59 : decode cX9_order 59 = .ok (.getfield 111, 3) := by decide +kernel
theorem dX9_order_62 : decode cX9_order 62 = .ok (.iconst 1, 1) := by decide +kernel
theorem dX9_order_63 : decode cX9_order 63 = .ok (.iadd, 1) := by decide +kernel
theorem dX9_order_64 : decode cX9_order 64 = .ok (.putfield 111, 3) := by decide +kernel
theorem dX9_order_67 : decode cX9_order 67 = .ok (.aload_n 0, 1) := by decide +kernel
theorem dX9_order_68 : decode cX9_order 68 = .ok (.getfield 28, 3) := by decide +kernel
theorem dX9_order_71 : decode cX9_order 71 = .ok (.iload 5, 2) := by decide +kernel
theorem dX9_order_73 : decode cX9_order 73 = .ok (.iload_n 1, 1) := by decide +kernel
theorem dX9_order_74 : decode cX9_order 74 = .ok (.iastore, 1) := by decide +kernel
theorem dX9_order_75 : decode cX9_order 75 = .ok (.aload_n 0, 1) := by decide +kernel
theorem dX9_order_76 : decode cX9_order 76 = .ok (.getfield 31, 3) := by decide +kernel
theorem dX9_order_79 : decode cX9_order 79 = .ok (.iload 5, 2) := by decide +kernel
theorem dX9_order_81 : decode cX9_order 81 = .ok (.iload_n 2, 1) := by decide +kernel
theorem dX9_order_82 : decode cX9_order 82 = .ok (.iastore, 1) := by decide +kernel
theorem dX9_order_83 : decode cX9_order 83 = .ok (.aload_n 0, 1) := by decide +kernel
theorem dX9_order_84 : decode cX9_order 84 = .ok (.getfield 34, 3) := by decide +kernel
theorem dX9_order_87 : decode cX9_order 87 = .ok (.iload 5, 2) := by decide +kernel
theorem dX9_order_89 : decode cX9_order 89 = .ok (.iload_n 3, 1) := by decide +kernel
theorem dX9_order_90 : decode cX9_order 90 = .ok (.iastore, 1) := by decide +kernel
theorem dX9_order_91 : decode cX9_order 91 = .ok (.aload_n 0, 1) := by decide +kernel
theorem dX9_order_92 : decode cX9_order 92 = .ok (.getfield 37, 3) := by decide +kernel
theorem dX9_order_95 : decode cX9_order 95 = .ok (.iload 5, 2) := by decide +kernel
theorem dX9_order_97 : decode cX9_order 97 = .ok (.iload 4, 2) := by decide +kernel
theorem dX9_order_99 : decode cX9_order 99 = .ok (.iastore, 1) := by decide +kernel
theorem dX9_order_100 : decode cX9_order 100 = .ok (.aload_n 0, 1) := by decide +kernel
theorem dX9_order_101 : decode cX9_order 101 = .ok (.getfield 49, 3) := by decide +kernel
theorem dX9_order_104 : decode cX9_order 104 = .ok (.iload 5, 2) := by decide +kernel
theorem dX9_order_106 : decode cX9_order 106 = .ok (.iconst 0, 1) := by decide +kernel
theorem dX9_order_107 : decode cX9_order 107 = .ok (.iastore, 1) := by decide +kernel
theorem dX9_order_108 : decode cX9_order 108 = .ok (.aload_n 0, 1) := by decide +kernel
theorem dX9_order_109 : decode cX9_order 109 = .ok (.iload 5, 2) := by decide +kernel
theorem dX9_order_111 : decode cX9_order 111 = .ok (.invokevirtual 120, 3) := by decide +kernel
theorem dX9_order_114 : decode cX9_order 114 = .ok (.iload 5, 2) := by decide +kernel
theorem dX9_order_116 : decode cX9_order 116 = .ok (.ireturn, 1) := by decide +kernel
theorem dX9_drop_0 : decode cX9_drop 0 = .ok (.aload_n 0, 1) := by decide +kernel
theorem dX9_drop_1 : decode cX9_drop 1 = .ok (.iload_n 1, 1) := by decide +kernel
theorem dX9_drop_2 : decode cX9_drop 2 = .ok (.invokevirtual 117, 3) := by decide +kernel
theorem dX9_drop_5 : decode cX9_drop 5 = .ok (.ifCond .ne 5, 3) := by decide +kernel
theorem dX9_drop_8 : decode cX9_drop 8 = .ok (.iconst 0, 1) := by decide +kernel
theorem dX9_drop_9 : decode cX9_drop 9 = .ok (.ireturn, 1) := by decide +kernel
theorem dX9_drop_10 : decode cX9_drop 10 = .ok (.aload_n 0, 1) := by decide +kernel
theorem dX9_drop_11 : decode cX9_drop 11 = .ok (.getfield 49, 3) := by decide +kernel
theorem dX9_drop_14 : decode cX9_drop 14 = .ok (.iload_n 1, 1) := by decide +kernel
theorem dX9_drop_15 : decode cX9_drop 15 = .ok (.iconst 2, 1) := by decide +kernel
theorem dX9_drop_16 : decode cX9_drop 16 = .ok (.iastore, 1) := by decide +kernel
theorem dX9_drop_17 : decode cX9_drop 17 = .ok (.iconst 1, 1) := by decide +kernel
theorem dX9_drop_18 : decode cX9_drop 18 = .ok (.ireturn, 1) := by decide +kernel
theorem dX9_feed_0 : decode cX9_feed 0 = .ok (.aload_n 0, 1) := by decide +kernel
theorem dX9_feed_1 : decode cX9_feed 1 = .ok (.getfield 125, 3) := by decide +kernel
theorem dX9_feed_4 : decode cX9_feed 4 = .ok (.bipush 20, 2) := by decide +kernel
theorem dX9_feed_6 : decode cX9_feed 6 = .ok (.iadd, 1) := by decide +kernel
theorem dX9_feed_7 : decode cX9_feed 7 = .ok (.sipush 500, 3) := by decide +kernel
theorem dX9_feed_10 : decode cX9_feed 10 = .ok (.if_icmp .le 5, 3) := by decide +kernel
theorem dX9_feed_13 : decode cX9_feed 13 = .ok (.iconst (-1), 1) := by decide +kernel
theorem dX9_feed_14 : decode cX9_feed 14 = .ok (.ireturn, 1) := by decide +kernel
theorem dX9_feed_15 : decode cX9_feed 15 = .ok (.iconst 0, 1) := by decide +kernel
theorem dX9_feed_16 : decode cX9_feed 16 = .ok (.istore 6, 2) := by decide +kernel
theorem dX9_feed_18 : decode cX9_feed 18 = .ok (.iload 6, 2) := by decide +kernel
theorem dX9_feed_20 : decode cX9_feed 20 = .ok (.bipush 20, 2) := by decide +kernel
theorem dX9_feed_22 : decode cX9_feed 22 = .ok (.if_icmp .ge 93, 3) := by decide +kernel
theorem dX9_feed_25 : decode cX9_feed 25 = .ok (.iload 6, 2) := by decide +kernel
theorem dX9_feed_27 : decode cX9_feed 27 = .ok (.iconst 4, 1) := by decide +kernel
theorem dX9_feed_28 : decode cX9_feed 28 = .ok (.if_icmp .ge 7, 3) := by decide +kernel
theorem dX9_feed_31 : decode cX9_feed 31 = .ok (.iload_n 1, 1) := by decide +kernel
theorem dX9_feed_32 : decode cX9_feed 32 = .ok (.goto 39, 3) := by decide +kernel
theorem dX9_feed_35 : decode cX9_feed 35 = .ok (.iload 6, 2) := by decide +kernel
theorem dX9_feed_37 : decode cX9_feed 37 = .ok (.bipush 8, 2) := by decide +kernel
theorem dX9_feed_39 : decode cX9_feed 39 = .ok (.if_icmp .ge 7, 3) := by decide +kernel
theorem dX9_feed_42 : decode cX9_feed 42 = .ok (.iload_n 2, 1) := by decide +kernel
theorem dX9_feed_43 : decode cX9_feed 43 = .ok (.goto 28, 3) := by decide +kernel
theorem dX9_feed_46 : decode cX9_feed 46 = .ok (.iload 6, 2) := by decide +kernel
theorem dX9_feed_48 : decode cX9_feed 48 = .ok (.bipush 12, 2) := by decide +kernel
theorem dX9_feed_50 : decode cX9_feed 50 = .ok (.if_icmp .ge 7, 3) := by decide +kernel
theorem dX9_feed_53 : decode cX9_feed 53 = .ok (.iload_n 3, 1) := by decide +kernel
theorem dX9_feed_54 : decode cX9_feed 54 = .ok (.goto 17, 3) := by decide +kernel
theorem dX9_feed_57 : decode cX9_feed 57 = .ok (.iload 6, 2) := by decide +kernel
theorem dX9_feed_59 : decode cX9_feed 59 = .ok (.bipush 16, 2) := by decide +kernel
theorem dX9_feed_61 : decode cX9_feed 61 = .ok (.if_icmp .ge 8, 3) := by decide +kernel
theorem dX9_feed_64 : decode cX9_feed 64 = .ok (.iload 4, 2) := by decide +kernel
theorem dX9_feed_66 : decode cX9_feed 66 = .ok (.goto 5, 3) := by decide +kernel
theorem dX9_feed_69 : decode cX9_feed 69 = .ok (.iload 5, 2) := by decide +kernel
theorem dX9_feed_71 : decode cX9_feed 71 = .ok (.istore 7, 2) := by decide +kernel
theorem dX9_feed_73 : decode cX9_feed 73 = .ok (.aload_n 0, 1) := by decide +kernel
theorem dX9_feed_74 : decode cX9_feed 74 = .ok (.getfield 68, 3) := by decide +kernel
theorem dX9_feed_77 : decode cX9_feed 77 = .ok (.aload_n 0, 1) := by decide +kernel
theorem dX9_feed_78 : decode cX9_feed 78 = .ok (.getfield 125, 3) := by decide +kernel
theorem dX9_feed_81 : decode cX9_feed 81 = .ok (.iload 7, 2) := by decide +kernel
theorem dX9_feed_83 : decode cX9_feed 83 = .ok (.bipush 24, 2) := by decide +kernel
theorem dX9_feed_85 : decode cX9_feed 85 = .ok (.bipush 8, 2) := by decide +kernel
theorem dX9_feed_87 : decode cX9_feed 87 = .ok (.iload 6, 2) := by decide +kernel
theorem dX9_feed_89 : decode cX9_feed 89 = .ok (.iconst 4, 1) := by decide +kernel
theorem dX9_feed_90 : decode cX9_feed 90 = .ok (.irem, 1) := by decide +kernel
theorem dX9_feed_91 : decode cX9_feed 91 = .ok (.imul, 1) := by decide +kernel
theorem dX9_feed_92 : decode cX9_feed 92 = .ok (.isub, 1) := by decide +kernel
theorem dX9_feed_93 : decode cX9_feed 93 = .ok (.ishr, 1) := by decide +kernel
theorem dX9_feed_94 : decode cX9_feed 94 = .ok (.sipush 255, 3) := by decide +kernel
theorem dX9_feed_97 : decode cX9_feed 97 = .ok (.iand, 1) := by decide +kernel
theorem dX9_feed_98 : decode cX9_feed 98 = .ok (.iastore, 1) := by decide +kernel
theorem dX9_feed_99 : decode cX9_feed 99 = .ok (.aload_n 0, 1) := by decide +kernel
theorem dX9_feed_100 : decode cX9_feed 100 = .ok (.dup, 1) := by decide +kernel
theorem dX9_feed_101 : decode cX9_feed 101 = .ok (.getfield 125, 3) := by decide +kernel
theorem dX9_feed_104 : decode cX9_feed 104 = .ok (.iconst 1, 1) := by decide +kernel
theorem dX9_feed_105 : decode cX9_feed 105 = .ok (.iadd, 1) := by decide +kernel
theorem dX9_feed_106 : decode cX9_feed 106 = .ok (.putfield 125, 3) := by decide +kernel
theorem dX9_feed_109 : decode cX9_feed 109 = .ok (.iinc 6 1, 3) := by decide +kernel
theorem dX9_feed_112 : decode cX9_feed 112 = .ok (.goto (-94), 3) := by decide +kernel
theorem dX9_feed_115 : decode cX9_feed 115 = .ok (.aload_n 0, 1) := by decide +kernel
theorem dX9_feed_116 : decode cX9_feed 116 = .ok (.getfield 125, 3) := by decide +kernel
theorem dX9_feed_119 : decode cX9_feed 119 = .ok (.ireturn, 1) := by decide +kernel
theorem dX9_end_0 : decode cX9_end 0 = .ok (.iload_n 1, 1) := by decide +kernel
theorem dX9_end_1 : decode cX9_end 1 = .ok (.iconst 0, 1) := by decide +kernel
theorem dX9_end_2 : decode cX9_end 2 = .ok (.aload_n 0, 1) := by decide +kernel
theorem dX9_end_3 : decode cX9_end 3 = .ok (.getfield 125, 3) := by decide +kernel
theorem dX9_end_6 : decode cX9_end 6 = .ok (.invokestatic 96, 3) := by decide +kernel
theorem dX9_end_9 : decode cX9_end 9 = .ok (.ifCond .ne 5, 3) := by decide +kernel
theorem dX9_end_12 : decode cX9_end 12 = .ok (.iconst 0, 1) := by decide +kernel
theorem dX9_end_13 : decode cX9_end 13 = .ok (.ireturn, 1) := by decide +kernel
theorem dX9_end_14 : decode cX9_end 14 = .ok (.aload_n 0, 1) := by decide +kernel
theorem dX9_end_15 : decode cX9_end 15 = .ok (.iload_n 1, 1) := by decide +kernel
theorem dX9_end_16 : decode cX9_end 16 = .ok (.putfield 125, 3) := by decide +kernel
theorem dX9_end_19 : decode cX9_end 19 = .ok (.iconst 1, 1) := by decide +kernel
theorem dX9_end_20 : decode cX9_end 20 = .ok (.ireturn, 1) := by decide +kernel
theorem dX9_see_0 : decode cX9_see 0 = .ok (.iload_n 1, 1) := by decide +kernel
theorem dX9_see_1 : decode cX9_see 1 = .ok (.aload_n 0, 1) := by decide +kernel
theorem dX9_see_2 : decode cX9_see 2 = .ok (.getfield 125, 3) := by decide +kernel
theorem dX9_see_5 : decode cX9_see 5 = .ok (.if_icmp .ge 12, 3) := by decide +kernel
theorem dX9_see_8 : decode cX9_see 8 = .ok (.aload_n 0, 1) := by decide +kernel
theorem dX9_see_9 : decode cX9_see 9 = .ok (.getfield 68, 3) := by decide +kernel
theorem dX9_see_12 : decode cX9_see 12 = .ok (.iload_n 1, 1) := by decide +kernel
theorem dX9_see_13 : decode cX9_see 13 = .ok (.iaload, 1) := by decide +kernel
theorem dX9_see_14 : decode cX9_see 14 = .ok (.goto 4, 3) := by decide +kernel
theorem dX9_see_17 : decode cX9_see 17 = .ok (.iconst (-1), 1) := by decide +kernel
theorem dX9_see_18 : decode cX9_see 18 = .ok (.ireturn, 1) := by decide +kernel
theorem dX9_isLetter_0 : decode cX9_isLetter 0 = .ok (.iload_n 0, 1) := by decide +kernel
theorem dX9_isLetter_1 : decode cX9_isLetter 1 = .ok (.bipush 97, 2) := by decide +kernel
theorem dX9_isLetter_3 : decode cX9_isLetter 3 = .ok (.bipush 122, 2) := by decide +kernel
theorem dX9_isLetter_5 : decode cX9_isLetter 5 = .ok (.invokestatic 96, 3) := by decide +kernel
theorem dX9_isLetter_8 : decode cX9_isLetter 8 = .ok (.ifCond .ne 14, 3) := by decide +kernel
theorem dX9_isLetter_11 : decode cX9_isLetter 11 = .ok (.iload_n 0, 1) := by decide +kernel
theorem dX9_isLetter_12 : decode cX9_isLetter 12 = .ok (.bipush 65, 2) := by decide +kernel
theorem dX9_isLetter_14 : decode cX9_isLetter 14 = .ok (.bipush 90, 2) := by decide +kernel
theorem dX9_isLetter_16 : decode cX9_isLetter 16 = .ok (.invokestatic 96, 3) := by decide +kernel
theorem dX9_isLetter_19 : decode cX9_isLetter 19 = .ok (.ifCond .eq 7, 3) := by decide +kernel
theorem dX9_isLetter_22 : decode cX9_isLetter 22 = .ok (.iconst 1, 1) := by decide +kernel
theorem dX9_isLetter_23 : decode cX9_isLetter 23 = .ok (.goto 4, 3) := by decide +kernel
theorem dX9_isLetter_26 : decode cX9_isLetter 26 = .ok (.iconst 0, 1) := by decide +kernel
theorem dX9_isLetter_27 : decode cX9_isLetter 27 = .ok (.ireturn, 1) := by decide +kernel
theorem dX9_isDigit_0 : decode cX9_isDigit 0 = .ok (.iload_n 0, 1) := by decide +kernel
theorem dX9_isDigit_1 : decode cX9_isDigit 1 = .ok (.bipush 48, 2) := by decide +kernel
theorem dX9_isDigit_3 : decode cX9_isDigit 3 = .ok (.bipush 57, 2) := by decide +kernel
theorem dX9_isDigit_5 : decode cX9_isDigit 5 = .ok (.invokestatic 96, 3) := by decide +kernel
theorem dX9_isDigit_8 : decode cX9_isDigit 8 = .ok (.ireturn, 1) := by decide +kernel
theorem dX9_word_0 : decode cX9_word 0 = .ok (.lload_n 0, 1) := by decide +kernel
theorem dX9_word_1 : decode cX9_word 1 = .ok (.ldc2_w 128, 3) := by decide +kernel
theorem dX9_word_4 : decode cX9_word 4 = .ok (.lcmp, 1) := by decide +kernel
theorem dX9_word_5 : decode cX9_word 5 = .ok (.ifCond .ne 5, 3) := by decide +kernel
theorem dX9_word_8 : decode cX9_word 8 = .ok (.iconst 3, 1) := by decide +kernel
theorem dX9_word_9 : decode cX9_word 9 = .ok (.ireturn, 1) := by decide +kernel
theorem dX9_word_10 : decode cX9_word 10 = .ok (.lload_n 0, 1) := by decide +kernel
theorem dX9_word_11 : decode cX9_word 11 = .ok (.ldc2_w 130, 3) := by decide +kernel
theorem dX9_word_14 : decode cX9_word 14 = .ok (.lcmp, 1) := by decide +kernel
theorem dX9_word_15 : decode cX9_word 15 = .ok (.ifCond .ne 5, 3) := by decide +kernel
theorem dX9_word_18 : decode cX9_word 18 = .ok (.iconst 4, 1) := by decide +kernel
theorem dX9_word_19 : decode cX9_word 19 = .ok (.ireturn, 1) := by decide +kernel
theorem dX9_word_20 : decode cX9_word 20 = .ok (.lload_n 0, 1) := by decide +kernel
theorem dX9_word_21 : decode cX9_word 21 = .ok (.ldc2_w 132, 3) := by decide +kernel
theorem dX9_word_24 : decode cX9_word 24 = .ok (.lcmp, 1) := by decide +kernel
theorem dX9_word_25 : decode cX9_word 25 = .ok (.ifCond .ne 5, 3) := by decide +kernel
theorem dX9_word_28 : decode cX9_word 28 = .ok (.iconst 5, 1) := by decide +kernel
theorem dX9_word_29 : decode cX9_word 29 = .ok (.ireturn, 1) := by decide +kernel
theorem dX9_word_30 : decode cX9_word 30 = .ok (.lload_n 0, 1) := by decide +kernel
theorem dX9_word_31 : decode cX9_word 31 = .ok (.ldc2_w 134, 3) := by decide +kernel
theorem dX9_word_34 : decode cX9_word 34 = .ok (.lcmp, 1) := by decide +kernel
theorem dX9_word_35 : decode cX9_word 35 = .ok (.ifCond .ne 6, 3) := by decide +kernel
theorem dX9_word_38 : decode cX9_word 38 = .ok (.bipush 6, 2) := by decide +kernel
theorem dX9_word_40 : decode cX9_word 40 = .ok (.ireturn, 1) := by decide +kernel
theorem dX9_word_41 : decode cX9_word 41 = .ok (.lload_n 0, 1) := by decide +kernel
theorem dX9_word_42 : decode cX9_word 42 = .ok (.ldc2_w 136, 3) := by decide +kernel
theorem dX9_word_45 : decode cX9_word 45 = .ok (.lcmp, 1) := by decide +kernel
theorem dX9_word_46 : decode cX9_word 46 = .ok (.ifCond .ne 6, 3) := by decide +kernel
theorem dX9_word_49 : decode cX9_word 49 = .ok (.bipush 7, 2) := by decide +kernel
theorem dX9_word_51 : decode cX9_word 51 = .ok (.ireturn, 1) := by decide +kernel
theorem dX9_word_52 : decode cX9_word 52 = .ok (.lload_n 0, 1) := by decide +kernel
theorem dX9_word_53 : decode cX9_word 53 = .ok (.ldc2_w 138, 3) := by decide +kernel
theorem dX9_word_56 : decode cX9_word 56 = .ok (.lcmp, 1) := by decide +kernel
theorem dX9_word_57 : decode cX9_word 57 = .ok (.ifCond .ne 6, 3) := by decide +kernel
theorem dX9_word_60 : decode cX9_word 60 = .ok (.bipush 8, 2) := by decide +kernel
theorem dX9_word_62 : decode cX9_word 62 = .ok (.ireturn, 1) := by decide +kernel
theorem dX9_word_63 : decode cX9_word 63 = .ok (.lload_n 0, 1) := by decide +kernel
theorem dX9_word_64 : decode cX9_word 64 = .ok (.ldc2_w 140, 3) := by decide +kernel
theorem dX9_word_67 : decode cX9_word 67 = .ok (.lcmp, 1) := by decide +kernel
theorem dX9_word_68 : decode cX9_word 68 = .ok (.ifCond .ne 6, 3) := by decide +kernel
theorem dX9_word_71 : decode cX9_word 71 = .ok (.bipush 9, 2) := by decide +kernel
theorem dX9_word_73 : decode cX9_word 73 = .ok (.ireturn, 1) := by decide +kernel
theorem dX9_word_74 : decode cX9_word 74 = .ok (.lload_n 0, 1) := by decide +kernel
theorem dX9_word_75 : decode cX9_word 75 = .ok (.ldc2_w 142, 3) := by decide +kernel
theorem dX9_word_78 : decode cX9_word 78 = .ok (.lcmp, 1) := by decide +kernel
theorem dX9_word_79 : decode cX9_word 79 = .ok (.ifCond .ne 8, 3) := by decide +kernel
theorem dX9_word_82 : decode cX9_word 82 = .ok (.bipush 10, 2) := by decide +kernel
theorem dX9_word_84 : decode cX9_word 84 = .ok (.goto 4, 3) := by decide +kernel
theorem dX9_word_87 : decode cX9_word 87 = .ok (.iconst 1, 1) := by decide +kernel
theorem dX9_word_88 : decode cX9_word 88 = .ok (.ireturn, 1) := by decide +kernel
theorem dX9_next0_0 : decode cX9_next0 0 = .ok (.aload_n 0, 1) := by decide +kernel
theorem dX9_next0_1 : decode cX9_next0 1 = .ok (.aload_n 0, 1) := by decide +kernel
theorem dX9_next0_2 : decode cX9_next0 2 = .ok (.getfield 144, 3) := by decide +kernel
theorem dX9_next0_5 : decode cX9_next0 5 = .ok (.invokevirtual 147, 3) := by decide +kernel
theorem dX9_next0_8 : decode cX9_next0 8 = .ok (.bipush 32, 2) := by decide +kernel
theorem dX9_next0_10 : decode cX9_next0 10 = .ok (.if_icmp .eq 16, 3) := by decide +kernel
theorem dX9_next0_13 : decode cX9_next0 13 = .ok (.aload_n 0, 1) := by decide +kernel
theorem dX9_next0_14 : decode cX9_next0 14 = .ok (.aload_n 0, 1) := by decide +kernel
theorem dX9_next0_15 : decode cX9_next0 15 = .ok (.getfield 144, 3) := by decide +kernel
theorem dX9_next0_18 : decode cX9_next0 18 = .ok (.invokevirtual 147, 3) := by decide +kernel
theorem dX9_next0_21 : decode cX9_next0 21 = .ok (.bipush 10, 2) := by decide +kernel
theorem dX9_next0_23 : decode cX9_next0 23 = .ok (.if_icmp .ne 16, 3) := by decide +kernel
theorem dX9_next0_26 : decode cX9_next0 26 = .ok (.aload_n 0, 1) := by decide +kernel
theorem dX9_next0_27 : decode cX9_next0 27 = .ok (.dup, 1) := by decide +kernel
theorem dX9_next0_28 : decode cX9_next0 28 = .ok (.getfield 144, 3) := by decide +kernel
theorem dX9_next0_31 : decode cX9_next0 31 = .ok (.iconst 1, 1) := by decide +kernel
theorem dX9_next0_32 : decode cX9_next0 32 = .ok (.iadd, 1) := by decide +kernel
theorem dX9_next0_33 : decode cX9_next0 33 = .ok (.putfield 144, 3) := by decide +kernel
theorem dX9_next0_36 : decode cX9_next0 36 = .ok (.goto (-36), 3) := by decide +kernel
theorem dX9_next0_39 : decode cX9_next0 39 = .ok (.aload_n 0, 1) := by decide +kernel
theorem dX9_next0_40 : decode cX9_next0 40 = .ok (.aload_n 0, 1) := by decide +kernel
theorem dX9_next0_41 : decode cX9_next0 41 = .ok (.getfield 144, 3) := by decide +kernel
theorem dX9_next0_44 : decode cX9_next0 44 = .ok (.putfield 151, 3) := by decide +kernel
theorem dX9_next0_47 : decode cX9_next0 47 = .ok (.aload_n 0, 1) := by decide +kernel
theorem dX9_next0_48 : decode cX9_next0 48 = .ok (.aload_n 0, 1) := by decide +kernel
theorem dX9_next0_49 : decode cX9_next0 49 = .ok (.getfield 144, 3) := by decide +kernel
theorem dX9_next0_52 : decode cX9_next0 52 = .ok (.invokevirtual 147, 3) := by decide +kernel
theorem dX9_next0_55 : decode cX9_next0 55 = .ok (.istore_n 1, 1) := by decide +kernel
theorem dX9_next0_56 : decode cX9_next0 56 = .ok (.iconst 0, 1) := by decide +kernel
theorem dX9_next0_57 : decode cX9_next0 57 = .ok (.istore_n 2, 1) := by decide +kernel
theorem dX9_next0_58 : decode cX9_next0 58 = .ok (.iload_n 1, 1) := by decide +kernel
theorem dX9_next0_59 : decode cX9_next0 59 = .ok (.iconst (-1), 1) := by decide +kernel
theorem dX9_next0_60 : decode cX9_next0 60 = .ok (.if_icmp .ne 11, 3) := by decide +kernel
theorem dX9_next0_63 : decode cX9_next0 63 = .ok (.aload_n 0, 1) := by decide +kernel
theorem dX9_next0_64 : decode cX9_next0 64 = .ok (.iconst 0, 1) := by decide +kernel
theorem dX9_next0_65 : decode cX9_next0 65 = .ok (.putfield 154, 3) := by decide +kernel
theorem dX9_next0_68 : decode cX9_next0 68 = .ok (.goto 196, 3) := by decide +kernel
theorem dX9_next0_71 : decode cX9_next0 71 = .ok (.iload_n 1, 1) := by decide +kernel
theorem dX9_next0_72 : decode cX9_next0 72 = .ok (.invokestatic 157, 3) := by decide +kernel
theorem dX9_next0_75 : decode cX9_next0 75 = .ok (.ifCond .eq 77, 3) := by decide +kernel
theorem dX9_next0_78 : decode cX9_next0 78 = .ok (.lconst 0, 1) := by decide +kernel
theorem dX9_next0_79 : decode cX9_next0 79 = .ok (.lstore_n 3, 1) := by decide +kernel
theorem dX9_next0_80 : decode cX9_next0 80 = .ok (.aload_n 0, 1) := by decide +kernel
theorem dX9_next0_81 : decode cX9_next0 81 = .ok (.aload_n 0, 1) := by decide +kernel
theorem dX9_next0_82 : decode cX9_next0 82 = .ok (.getfield 144, 3) := by decide +kernel
theorem dX9_next0_85 : decode cX9_next0 85 = .ok (.invokevirtual 147, 3) := by decide +kernel
theorem dX9_next0_88 : decode cX9_next0 88 = .ok (.invokestatic 157, 3) := by decide +kernel
theorem dX9_next0_91 : decode cX9_next0 91 = .ok (.ifCond .eq 40, 3) := by decide +kernel
theorem dX9_next0_94 : decode cX9_next0 94 = .ok (.iload_n 2, 1) := by decide +kernel
theorem dX9_next0_95 : decode cX9_next0 95 = .ok (.bipush 6, 2) := by decide +kernel
theorem dX9_next0_97 : decode cX9_next0 97 = .ok (.if_icmp .ge 18, 3) := by decide +kernel
theorem dX9_next0_100 : decode cX9_next0 100 = .ok (.lload_n 3, 1) := by decide +kernel
theorem dX9_next0_101 : decode cX9_next0 101 = .ok (.bipush 8, 2) := by decide +kernel
theorem dX9_next0_103 : decode cX9_next0 103 = .ok (.lshl, 1) := by decide +kernel
theorem dX9_next0_104 : decode cX9_next0 104 = .ok (.aload_n 0, 1) := by decide +kernel
theorem dX9_next0_105 : decode cX9_next0 105 = .ok (.aload_n 0, 1) := by decide +kernel
theorem dX9_next0_106 : decode cX9_next0 106 = .ok (.getfield 144, 3) := by decide +kernel
theorem dX9_next0_109 : decode cX9_next0 109 = .ok (.invokevirtual 147, 3) := by decide +kernel
theorem dX9_next0_112 : decode cX9_next0 112 = .ok (.i2l, 1) := by decide +kernel
theorem dX9_next0_113 : decode cX9_next0 113 = .ok (.lor, 1) := by decide +kernel
theorem dX9_next0_114 : decode cX9_next0 114 = .ok (.lstore_n 3, 1) := by decide +kernel
theorem dX9_next0_115 : decode cX9_next0 115 = .ok (.iinc 2 1, 3) := by decide +kernel
theorem dX9_next0_118 : decode cX9_next0 118 = .ok (.aload_n 0, 1) := by decide +kernel
theorem dX9_next0_119 : decode cX9_next0 119 = .ok (.dup, 1) := by decide +kernel
theorem dX9_next0_120 : decode cX9_next0 120 = .ok (.getfield 144, 3) := by decide +kernel
theorem dX9_next0_123 : decode cX9_next0 123 = .ok (.iconst 1, 1) := by decide +kernel
theorem dX9_next0_124 : decode cX9_next0 124 = .ok (.iadd, 1) := by decide +kernel
theorem dX9_next0_125 : decode cX9_next0 125 = .ok (.putfield 144, 3) := by decide +kernel
theorem dX9_next0_128 : decode cX9_next0 128 = .ok (.goto (-48), 3) := by decide +kernel
theorem dX9_next0_131 : decode cX9_next0 131 = .ok (.aload_n 0, 1) := by decide +kernel
theorem dX9_next0_132 : decode cX9_next0 132 = .ok (.iload_n 2, 1) := by decide +kernel
theorem dX9_next0_133 : decode cX9_next0 133 = .ok (.bipush 6, 2) := by decide +kernel
theorem dX9_next0_135 : decode cX9_next0 135 = .ok (.if_icmp .ge 10, 3) := by decide +kernel
theorem dX9_next0_138 : decode cX9_next0 138 = .ok (.lload_n 3, 1) := by decide +kernel
theorem dX9_next0_139 : decode cX9_next0 139 = .ok (.invokestatic 160, 3) := by decide +kernel
theorem dX9_next0_142 : decode cX9_next0 142 = .ok (.goto 4, 3) := by decide +kernel
theorem dX9_next0_145 : decode cX9_next0 145 = .ok (.iconst 1, 1) := by decide +kernel
theorem dX9_next0_146 : decode cX9_next0 146 = .ok (.putfield 154, 3) := by decide +kernel
theorem dX9_next0_149 : decode cX9_next0 149 = .ok (.goto 115, 3) := by decide +kernel
theorem dX9_next0_152 : decode cX9_next0 152 = .ok (.iload_n 1, 1) := by decide +kernel
theorem dX9_next0_153 : decode cX9_next0 153 = .ok (.invokestatic 164, 3) := by decide +kernel
theorem dX9_next0_156 : decode cX9_next0 156 = .ok (.ifCond .eq 83, 3) := by decide +kernel
theorem dX9_next0_159 : decode cX9_next0 159 = .ok (.aload_n 0, 1) := by decide +kernel
theorem dX9_next0_160 : decode cX9_next0 160 = .ok (.iconst 0, 1) := by decide +kernel
theorem dX9_next0_161 : decode cX9_next0 161 = .ok (.putfield 167, 3) := by decide +kernel
theorem dX9_next0_164 : decode cX9_next0 164 = .ok (.aload_n 0, 1) := by decide +kernel
theorem dX9_next0_165 : decode cX9_next0 165 = .ok (.aload_n 0, 1) := by decide +kernel
theorem dX9_next0_166 : decode cX9_next0 166 = .ok (.getfield 144, 3) := by decide +kernel
theorem dX9_next0_169 : decode cX9_next0 169 = .ok (.invokevirtual 147, 3) := by decide +kernel
theorem dX9_next0_172 : decode cX9_next0 172 = .ok (.invokestatic 164, 3) := by decide +kernel
theorem dX9_next0_175 : decode cX9_next0 175 = .ok (.ifCond .eq 47, 3) := by decide +kernel
theorem dX9_next0_178 : decode cX9_next0 178 = .ok (.iload_n 2, 1) := by decide +kernel
theorem dX9_next0_179 : decode cX9_next0 179 = .ok (.iconst 2, 1) := by decide +kernel
theorem dX9_next0_180 : decode cX9_next0 180 = .ok (.if_icmp .ge 26, 3) := by decide +kernel
theorem dX9_next0_183 : decode cX9_next0 183 = .ok (.aload_n 0, 1) := by decide +kernel
theorem dX9_next0_184 : decode cX9_next0 184 = .ok (.bipush 10, 2) := by decide +kernel
theorem dX9_next0_186 : decode cX9_next0 186 = .ok (.aload_n 0, 1) := by decide +kernel
theorem dX9_next0_187 : decode cX9_next0 187 = .ok (.getfield 167, 3) := by decide +kernel
theorem dX9_next0_190 : decode cX9_next0 190 = .ok (.imul, 1) := by decide +kernel
theorem dX9_next0_191 : decode cX9_next0 191 = .ok (.aload_n 0, 1) := by decide +kernel
theorem dX9_next0_192 : decode cX9_next0 192 = .ok (.aload_n 0, 1) := by decide +kernel
theorem dX9_next0_193 : decode cX9_next0 193 = .ok (.getfield 144, 3) := by decide +kernel
theorem dX9_next0_196 : decode cX9_next0 196 = .ok (.invokevirtual 147, 3) := by decide +kernel
theorem dX9_next0_199 : decode cX9_next0 199 = .ok (.iadd, 1) := by decide +kernel
theorem dX9_next0_200 : decode cX9_next0 200 = .ok (.bipush 48, 2) := by decide +kernel
theorem dX9_next0_202 : decode cX9_next0 202 = .ok (.isub, 1) := by decide +kernel
theorem dX9_next0_203 : decode cX9_next0 203 = .ok (.putfield 167, 3) := by decide +kernel
theorem dX9_next0_206 : decode cX9_next0 206 = .ok (.iinc 2 1, 3) := by decide +kernel
theorem dX9_next0_209 : decode cX9_next0 209 = .ok (.aload_n 0, 1) := by decide +kernel
theorem dX9_next0_210 : decode cX9_next0 210 = .ok (.dup, 1) := by decide +kernel
theorem dX9_next0_211 : decode cX9_next0 211 = .ok (.getfield 144, 3) := by decide +kernel
theorem dX9_next0_214 : decode cX9_next0 214 = .ok (.iconst 1, 1) := by decide +kernel
theorem dX9_next0_215 : decode cX9_next0 215 = .ok (.iadd, 1) := by decide +kernel
theorem dX9_next0_216 : decode cX9_next0 216 = .ok (.putfield 144, 3) := by decide +kernel
theorem dX9_next0_219 : decode cX9_next0 219 = .ok (.goto (-55), 3) := by decide +kernel
theorem dX9_next0_222 : decode cX9_next0 222 = .ok (.aload_n 0, 1) := by decide +kernel
theorem dX9_next0_223 : decode cX9_next0 223 = .ok (.iload_n 2, 1) := by decide +kernel
theorem dX9_next0_224 : decode cX9_next0 224 = .ok (.iconst 3, 1) := by decide +kernel
theorem dX9_next0_225 : decode cX9_next0 225 = .ok (.if_icmp .ge 7, 3) := by decide +kernel
theorem dX9_next0_228 : decode cX9_next0 228 = .ok (.iconst 2, 1) := by decide +kernel
theorem dX9_next0_229 : decode cX9_next0 229 = .ok (.goto 4, 3) := by decide +kernel
theorem dX9_next0_232 : decode cX9_next0 232 = .ok (.iconst 1, 1) := by decide +kernel
theorem dX9_next0_233 : decode cX9_next0 233 = .ok (.putfield 154, 3) := by decide +kernel
theorem dX9_next0_236 : decode cX9_next0 236 = .ok (.goto 28, 3) := by decide +kernel
theorem dX9_next0_239 : decode cX9_next0 239 = .ok (.aload_n 0, 1) := by decide +kernel
theorem dX9_next0_240 : decode cX9_next0 240 = .ok (.dup, 1) := by decide +kernel
theorem dX9_next0_241 : decode cX9_next0 241 = .ok (.getfield 144, 3) := by decide +kernel
theorem dX9_next0_244 : decode cX9_next0 244 = .ok (.iconst 1, 1) := by decide +kernel
theorem dX9_next0_245 : decode cX9_next0 245 = .ok (.iadd, 1) := by decide +kernel
theorem dX9_next0_246 : decode cX9_next0 246 = .ok (.putfield 144, 3) := by decide +kernel
theorem dX9_next0_249 : decode cX9_next0 249 = .ok (.aload_n 0, 1) := by decide +kernel
theorem dX9_next0_250 : decode cX9_next0 250 = .ok (.iload_n 1, 1) := by decide +kernel
theorem dX9_next0_251 : decode cX9_next0 251 = .ok (.bipush 59, 2) := by decide +kernel
theorem dX9_next0_253 : decode cX9_next0 253 = .ok (.if_icmp .ne 7, 3) := by decide +kernel
theorem dX9_next0_256 : decode cX9_next0 256 = .ok (.iload_n 1, 1) := by decide +kernel
theorem dX9_next0_257 : decode cX9_next0 257 = .ok (.goto 4, 3) := by decide +kernel
theorem dX9_next0_260 : decode cX9_next0 260 = .ok (.iconst 1, 1) := by decide +kernel
theorem dX9_next0_261 : decode cX9_next0 261 = .ok (.putfield 154, 3) := by decide +kernel
theorem dX9_next0_264 : decode cX9_next0 264 = .ok (.return_, 1) := by decide +kernel
theorem dX9_bad_0 : decode cX9_bad 0 = .ok (.aload_n 0, 1) := by decide +kernel
theorem dX9_bad_1 : decode cX9_bad 1 = .ok (.iload_n 1, 1) := by decide +kernel
theorem dX9_bad_2 : decode cX9_bad 2 = .ok (.putfield 170, 3) := by decide +kernel
theorem dX9_bad_5 : decode cX9_bad 5 = .ok (.aload_n 0, 1) := by decide +kernel
theorem dX9_bad_6 : decode cX9_bad 6 = .ok (.aload_n 0, 1) := by decide +kernel
theorem dX9_bad_7 : decode cX9_bad 7 = .ok (.getfield 151, 3) := by decide +kernel
theorem dX9_bad_10 : decode cX9_bad 10 = .ok (.putfield 173, 3) := by decide +kernel
theorem dX9_bad_13 : decode cX9_bad 13 = .ok (.iconst 0, 1) := by decide +kernel
theorem dX9_bad_14 : decode cX9_bad 14 = .ok (.ireturn, 1) := by decide +kernel
theorem dX9_need_0 : decode cX9_need 0 = .ok (.aload_n 0, 1) := by decide +kernel
theorem dX9_need_1 : decode cX9_need 1 = .ok (.getfield 154, 3) := by decide +kernel
theorem dX9_need_4 : decode cX9_need 4 = .ok (.iload_n 1, 1) := by decide +kernel
theorem dX9_need_5 : decode cX9_need 5 = .ok (.if_icmp .eq 9, 3) := by decide +kernel
theorem dX9_need_8 : decode cX9_need 8 = .ok (.aload_n 0, 1) := by decide +kernel
theorem dX9_need_9 : decode cX9_need 9 = .ok (.iconst 1, 1) := by decide +kernel
theorem dX9_need_10 : decode cX9_need 10 = .ok (.invokevirtual 176, 3) := by decide +kernel
theorem dX9_need_13 : decode cX9_need 13 = .ok (.ireturn, 1) := by decide +kernel
theorem dX9_need_14 : decode cX9_need 14 = .ok (.aload_n 0, 1) := by decide +kernel
theorem dX9_need_15 : decode cX9_need 15 = .ok (.invokevirtual 179, 3) := by decide +kernel
theorem dX9_need_18 : decode cX9_need 18 = .ok (.iconst 1, 1) := by decide +kernel
theorem dX9_need_19 : decode cX9_need 19 = .ok (.ireturn, 1) := by decide +kernel
theorem dX9_aNumber_0 : decode cX9_aNumber 0 = .ok (.aload_n 0, 1) := by decide +kernel
theorem dX9_aNumber_1 : decode cX9_aNumber 1 = .ok (.getfield 154, 3) := by decide +kernel
theorem dX9_aNumber_4 : decode cX9_aNumber 4 = .ok (.iconst 2, 1) := by decide +kernel
theorem dX9_aNumber_5 : decode cX9_aNumber 5 = .ok (.if_icmp .eq 9, 3) := by decide +kernel
theorem dX9_aNumber_8 : decode cX9_aNumber 8 = .ok (.aload_n 0, 1) := by decide +kernel
theorem dX9_aNumber_9 : decode cX9_aNumber 9 = .ok (.iconst 1, 1) := by decide +kernel
theorem dX9_aNumber_10 : decode cX9_aNumber 10 = .ok (.invokevirtual 176, 3) := by decide +kernel
theorem dX9_aNumber_13 : decode cX9_aNumber 13 = .ok (.ireturn, 1) := by decide +kernel
theorem dX9_aNumber_14 : decode cX9_aNumber 14 = .ok (.aload_n 0, 1) := by decide +kernel
theorem dX9_aNumber_15 : decode cX9_aNumber 15 = .ok (.getfield 167, 3) := by decide +kernel
theorem dX9_aNumber_18 : decode cX9_aNumber 18 = .ok (.iload_n 1, 1) := by decide +kernel
theorem dX9_aNumber_19 : decode cX9_aNumber 19 = .ok (.iload_n 2, 1) := by decide +kernel
theorem dX9_aNumber_20 : decode cX9_aNumber 20 = .ok (.invokestatic 96, 3) := by decide +kernel
theorem dX9_aNumber_23 : decode cX9_aNumber 23 = .ok (.ifCond .ne 9, 3) := by decide +kernel
theorem dX9_aNumber_26 : decode cX9_aNumber 26 = .ok (.aload_n 0, 1) := by decide +kernel
theorem dX9_aNumber_27 : decode cX9_aNumber 27 = .ok (.iconst 2, 1) := by decide +kernel
theorem dX9_aNumber_28 : decode cX9_aNumber 28 = .ok (.invokevirtual 176, 3) := by decide +kernel
theorem dX9_aNumber_31 : decode cX9_aNumber 31 = .ok (.ireturn, 1) := by decide +kernel
theorem dX9_aNumber_32 : decode cX9_aNumber 32 = .ok (.aload_n 0, 1) := by decide +kernel
theorem dX9_aNumber_33 : decode cX9_aNumber 33 = .ok (.aload_n 0, 1) := by decide +kernel
theorem dX9_aNumber_34 : decode cX9_aNumber 34 = .ok (.getfield 167, 3) := by decide +kernel
theorem dX9_aNumber_37 : decode cX9_aNumber 37 = .ok (.putfield 182, 3) := by decide +kernel
theorem dX9_aNumber_40 : decode cX9_aNumber 40 = .ok (.aload_n 0, 1) := by decide +kernel
theorem dX9_aNumber_41 : decode cX9_aNumber 41 = .ok (.invokevirtual 179, 3) := by decide +kernel
theorem dX9_aNumber_44 : decode cX9_aNumber 44 = .ok (.iconst 1, 1) := by decide +kernel
theorem dX9_aNumber_45 : decode cX9_aNumber 45 = .ok (.ireturn, 1) := by decide +kernel
theorem dX9_aLine_0 : decode cX9_aLine 0 = .ok (.aload_n 0, 1) := by decide +kernel
theorem dX9_aLine_1 : decode cX9_aLine 1 = .ok (.getfield 154, 3) := by decide +kernel
theorem dX9_aLine_4 : decode cX9_aLine 4 = .ok (.istore_n 1, 1) := by decide +kernel
theorem dX9_aLine_5 : decode cX9_aLine 5 = .ok (.iload_n 1, 1) := by decide +kernel
theorem dX9_aLine_6 : decode cX9_aLine 6 = .ok (.iconst 3, 1) := by decide +kernel
theorem dX9_aLine_7 : decode cX9_aLine 7 = .ok (.bipush 6, 2) := by decide +kernel
theorem dX9_aLine_9 : decode cX9_aLine 9 = .ok (.invokestatic 96, 3) := by decide +kernel
theorem dX9_aLine_12 : decode cX9_aLine 12 = .ok (.ifCond .ne 9, 3) := by decide +kernel
theorem dX9_aLine_15 : decode cX9_aLine 15 = .ok (.aload_n 0, 1) := by decide +kernel
theorem dX9_aLine_16 : decode cX9_aLine 16 = .ok (.iconst 1, 1) := by decide +kernel
theorem dX9_aLine_17 : decode cX9_aLine 17 = .ok (.invokevirtual 176, 3) := by decide +kernel
theorem dX9_aLine_20 : decode cX9_aLine 20 = .ok (.ireturn, 1) := by decide +kernel
theorem dX9_aLine_21 : decode cX9_aLine 21 = .ok (.aload_n 0, 1) := by decide +kernel
theorem dX9_aLine_22 : decode cX9_aLine 22 = .ok (.getfield 185, 3) := by decide +kernel
theorem dX9_aLine_25 : decode cX9_aLine 25 = .ok (.bipush 24, 2) := by decide +kernel
theorem dX9_aLine_27 : decode cX9_aLine 27 = .ok (.if_icmp .ne 9, 3) := by decide +kernel
theorem dX9_aLine_30 : decode cX9_aLine 30 = .ok (.aload_n 0, 1) := by decide +kernel
theorem dX9_aLine_31 : decode cX9_aLine 31 = .ok (.iconst 3, 1) := by decide +kernel
theorem dX9_aLine_32 : decode cX9_aLine 32 = .ok (.invokevirtual 176, 3) := by decide +kernel
theorem dX9_aLine_35 : decode cX9_aLine 35 = .ok (.ireturn, 1) := by decide +kernel
theorem dX9_aLine_36 : decode cX9_aLine 36 = .ok (.aload_n 0, 1) := by decide +kernel
theorem dX9_aLine_37 : decode cX9_aLine 37 = .ok (.invokevirtual 179, 3) := by decide +kernel
theorem dX9_aLine_40 : decode cX9_aLine 40 = .ok (.aload_n 0, 1) := by decide +kernel
theorem dX9_aLine_41 : decode cX9_aLine 41 = .ok (.iconst 0, 1) := by decide +kernel
theorem dX9_aLine_42 : decode cX9_aLine 42 = .ok (.iconst 5, 1) := by decide +kernel
theorem dX9_aLine_43 : decode cX9_aLine 43 = .ok (.invokevirtual 188, 3) := by decide +kernel
theorem dX9_aLine_46 : decode cX9_aLine 46 = .ok (.ifCond .ne 5, 3) := by decide +kernel
theorem dX9_aLine_49 : decode cX9_aLine 49 = .ok (.iconst 0, 1) := by decide +kernel
theorem dX9_aLine_50 : decode cX9_aLine 50 = .ok (.ireturn, 1) := by decide +kernel
theorem dX9_aLine_51 : decode cX9_aLine 51 = .ok (.aload_n 0, 1) := by decide +kernel
theorem dX9_aLine_52 : decode cX9_aLine 52 = .ok (.getfield 71, 3) := by decide +kernel
theorem dX9_aLine_55 : decode cX9_aLine 55 = .ok (.iconst 4, 1) := by decide +kernel
theorem dX9_aLine_56 : decode cX9_aLine 56 = .ok (.aload_n 0, 1) := by decide +kernel
theorem dX9_aLine_57 : decode cX9_aLine 57 = .ok (.getfield 185, 3) := by decide +kernel
theorem dX9_aLine_60 : decode cX9_aLine 60 = .ok (.imul, 1) := by decide +kernel
theorem dX9_aLine_61 : decode cX9_aLine 61 = .ok (.iload_n 1, 1) := by decide +kernel
theorem dX9_aLine_62 : decode cX9_aLine 62 = .ok (.iastore, 1) := by decide +kernel
theorem dX9_aLine_63 : decode cX9_aLine 63 = .ok (.aload_n 0, 1) := by decide +kernel
theorem dX9_aLine_64 : decode cX9_aLine 64 = .ok (.getfield 71, 3) := by decide +kernel
theorem dX9_aLine_67 : decode cX9_aLine 67 = .ok (.iconst 4, 1) := by decide +kernel
theorem dX9_aLine_68 : decode cX9_aLine 68 = .ok (.aload_n 0, 1) := by decide +kernel
theorem dX9_aLine_69 : decode cX9_aLine 69 = .ok (.getfield 185, 3) := by decide +kernel
theorem dX9_aLine_72 : decode cX9_aLine 72 = .ok (.imul, 1) := by decide +kernel
theorem dX9_aLine_73 : decode cX9_aLine 73 = .ok (.iconst 1, 1) := by decide +kernel
theorem dX9_aLine_74 : decode cX9_aLine 74 = .ok (.iadd, 1) := by decide +kernel
theorem dX9_aLine_75 : decode cX9_aLine 75 = .ok (.aload_n 0, 1) := by decide +kernel
theorem dX9_aLine_76 : decode cX9_aLine 76 = .ok (.getfield 182, 3) := by decide +kernel
theorem dX9_aLine_79 : decode cX9_aLine 79 = .ok (.iastore, 1) := by decide +kernel
theorem dX9_aLine_80 : decode cX9_aLine 80 = .ok (.iload_n 1, 1) := by decide +kernel
theorem dX9_aLine_81 : decode cX9_aLine 81 = .ok (.bipush 6, 2) := by decide +kernel
theorem dX9_aLine_83 : decode cX9_aLine 83 = .ok (.if_icmp .eq 70, 3) := by decide +kernel
theorem dX9_aLine_86 : decode cX9_aLine 86 = .ok (.aload_n 0, 1) := by decide +kernel
theorem dX9_aLine_87 : decode cX9_aLine 87 = .ok (.iload_n 1, 1) := by decide +kernel
theorem dX9_aLine_88 : decode cX9_aLine 88 = .ok (.iconst 3, 1) := by decide +kernel
theorem dX9_aLine_89 : decode cX9_aLine 89 = .ok (.if_icmp .ne 8, 3) := by decide +kernel
theorem dX9_aLine_92 : decode cX9_aLine 92 = .ok (.bipush 7, 2) := by decide +kernel
theorem dX9_aLine_94 : decode cX9_aLine 94 = .ok (.goto 15, 3) := by decide +kernel
theorem dX9_aLine_97 : decode cX9_aLine 97 = .ok (.iload_n 1, 1) := by decide +kernel
theorem dX9_aLine_98 : decode cX9_aLine 98 = .ok (.iconst 4, 1) := by decide +kernel
theorem dX9_aLine_99 : decode cX9_aLine 99 = .ok (.if_icmp .ne 8, 3) := by decide +kernel
theorem dX9_aLine_102 : decode cX9_aLine 102 = .ok (.bipush 8, 2) := by decide +kernel
theorem dX9_aLine_104 : decode cX9_aLine 104 = .ok (.goto 5, 3) := by decide +kernel
theorem dX9_aLine_107 : decode cX9_aLine 107 = .ok (.bipush 10, 2) := by decide +kernel
theorem dX9_aLine_109 : decode cX9_aLine 109 = .ok (.invokevirtual 191, 3) := by decide +kernel
theorem dX9_aLine_112 : decode cX9_aLine 112 = .ok (.ifCond .eq 22, 3) := by decide +kernel
theorem dX9_aLine_115 : decode cX9_aLine 115 = .ok (.aload_n 0, 1) := by decide +kernel
theorem dX9_aLine_116 : decode cX9_aLine 116 = .ok (.iconst 0, 1) := by decide +kernel
theorem dX9_aLine_117 : decode cX9_aLine 117 = .ok (.iload_n 1, 1) := by decide +kernel
theorem dX9_aLine_118 : decode cX9_aLine 118 = .ok (.iconst 5, 1) := by decide +kernel
theorem dX9_aLine_119 : decode cX9_aLine 119 = .ok (.if_icmp .ne 8, 3) := by decide +kernel
theorem dX9_aLine_122 : decode cX9_aLine 122 = .ok (.bipush 51, 2) := by decide +kernel
theorem dX9_aLine_124 : decode cX9_aLine 124 = .ok (.goto 4, 3) := by decide +kernel
theorem dX9_aLine_127 : decode cX9_aLine 127 = .ok (.iconst 3, 1) := by decide +kernel
theorem dX9_aLine_128 : decode cX9_aLine 128 = .ok (.invokevirtual 188, 3) := by decide +kernel
theorem dX9_aLine_131 : decode cX9_aLine 131 = .ok (.ifCond .ne 5, 3) := by decide +kernel
theorem dX9_aLine_134 : decode cX9_aLine 134 = .ok (.iconst 0, 1) := by decide +kernel
theorem dX9_aLine_135 : decode cX9_aLine 135 = .ok (.ireturn, 1) := by decide +kernel
theorem dX9_aLine_136 : decode cX9_aLine 136 = .ok (.aload_n 0, 1) := by decide +kernel
theorem dX9_aLine_137 : decode cX9_aLine 137 = .ok (.getfield 71, 3) := by decide +kernel
theorem dX9_aLine_140 : decode cX9_aLine 140 = .ok (.iconst 4, 1) := by decide +kernel
theorem dX9_aLine_141 : decode cX9_aLine 141 = .ok (.aload_n 0, 1) := by decide +kernel
theorem dX9_aLine_142 : decode cX9_aLine 142 = .ok (.getfield 185, 3) := by decide +kernel
theorem dX9_aLine_145 : decode cX9_aLine 145 = .ok (.imul, 1) := by decide +kernel
theorem dX9_aLine_146 : decode cX9_aLine 146 = .ok (.iconst 2, 1) := by decide +kernel
theorem dX9_aLine_147 : decode cX9_aLine 147 = .ok (.iadd, 1) := by decide +kernel
theorem dX9_aLine_148 : decode cX9_aLine 148 = .ok (.aload_n 0, 1) := by decide +kernel
theorem dX9_aLine_149 : decode cX9_aLine 149 = .ok (.getfield 182, 3) := by decide +kernel
theorem dX9_aLine_152 : decode cX9_aLine 152 = .ok (.iastore, 1) := by decide +kernel
theorem dX9_aLine_153 : decode cX9_aLine 153 = .ok (.iload_n 1, 1) := by decide +kernel
theorem dX9_aLine_154 : decode cX9_aLine 154 = .ok (.iconst 4, 1) := by decide +kernel
theorem dX9_aLine_155 : decode cX9_aLine 155 = .ok (.if_icmp .eq 8, 3) := by decide +kernel
theorem dX9_aLine_158 : decode cX9_aLine 158 = .ok (.iload_n 1, 1) := by decide +kernel
theorem dX9_aLine_159 : decode cX9_aLine 159 = .ok (.iconst 5, 1) := by decide +kernel
theorem dX9_aLine_160 : decode cX9_aLine 160 = .ok (.if_icmp .ne 72, 3) := by decide +kernel
theorem dX9_aLine_163 : decode cX9_aLine 163 = .ok (.aload_n 0, 1) := by decide +kernel
theorem dX9_aLine_164 : decode cX9_aLine 164 = .ok (.iload_n 1, 1) := by decide +kernel
theorem dX9_aLine_165 : decode cX9_aLine 165 = .ok (.iconst 4, 1) := by decide +kernel
theorem dX9_aLine_166 : decode cX9_aLine 166 = .ok (.if_icmp .ne 8, 3) := by decide +kernel
theorem dX9_aLine_169 : decode cX9_aLine 169 = .ok (.bipush 9, 2) := by decide +kernel
theorem dX9_aLine_171 : decode cX9_aLine 171 = .ok (.goto 5, 3) := by decide +kernel
theorem dX9_aLine_174 : decode cX9_aLine 174 = .ok (.bipush 8, 2) := by decide +kernel
theorem dX9_aLine_176 : decode cX9_aLine 176 = .ok (.invokevirtual 191, 3) := by decide +kernel
theorem dX9_aLine_179 : decode cX9_aLine 179 = .ok (.ifCond .eq 34, 3) := by decide +kernel
theorem dX9_aLine_182 : decode cX9_aLine 182 = .ok (.aload_n 0, 1) := by decide +kernel
theorem dX9_aLine_183 : decode cX9_aLine 183 = .ok (.iload_n 1, 1) := by decide +kernel
theorem dX9_aLine_184 : decode cX9_aLine 184 = .ok (.iconst 4, 1) := by decide +kernel
theorem dX9_aLine_185 : decode cX9_aLine 185 = .ok (.if_icmp .ne 7, 3) := by decide +kernel
theorem dX9_aLine_188 : decode cX9_aLine 188 = .ok (.iconst 0, 1) := by decide +kernel
theorem dX9_aLine_189 : decode cX9_aLine 189 = .ok (.goto 16, 3) := by decide +kernel
theorem dX9_aLine_192 : decode cX9_aLine 192 = .ok (.aload_n 0, 1) := by decide +kernel
theorem dX9_aLine_193 : decode cX9_aLine 193 = .ok (.getfield 71, 3) := by decide +kernel
theorem dX9_aLine_196 : decode cX9_aLine 196 = .ok (.iconst 4, 1) := by decide +kernel
theorem dX9_aLine_197 : decode cX9_aLine 197 = .ok (.aload_n 0, 1) := by decide +kernel
theorem dX9_aLine_198 : decode cX9_aLine 198 = .ok (.getfield 185, 3) := by decide +kernel
theorem dX9_aLine_201 : decode cX9_aLine 201 = .ok (.imul, 1) := by decide +kernel
theorem dX9_aLine_202 : decode cX9_aLine 202 = .ok (.iconst 2, 1) := by decide +kernel
theorem dX9_aLine_203 : decode cX9_aLine 203 = .ok (.iadd, 1) := by decide +kernel
theorem dX9_aLine_204 : decode cX9_aLine 204 = .ok (.iaload, 1) := by decide +kernel
theorem dX9_aLine_205 : decode cX9_aLine 205 = .ok (.bipush 51, 2) := by decide +kernel
theorem dX9_aLine_207 : decode cX9_aLine 207 = .ok (.invokevirtual 188, 3) := by decide +kernel
theorem dX9_aLine_210 : decode cX9_aLine 210 = .ok (.ifCond .ne 5, 3) := by decide +kernel
theorem dX9_aLine_213 : decode cX9_aLine 213 = .ok (.iconst 0, 1) := by decide +kernel
theorem dX9_aLine_214 : decode cX9_aLine 214 = .ok (.ireturn, 1) := by decide +kernel
theorem dX9_aLine_215 : decode cX9_aLine 215 = .ok (.aload_n 0, 1) := by decide +kernel
theorem dX9_aLine_216 : decode cX9_aLine 216 = .ok (.getfield 71, 3) := by decide +kernel
theorem dX9_aLine_219 : decode cX9_aLine 219 = .ok (.iconst 4, 1) := by decide +kernel
theorem dX9_aLine_220 : decode cX9_aLine 220 = .ok (.aload_n 0, 1) := by decide +kernel
theorem dX9_aLine_221 : decode cX9_aLine 221 = .ok (.getfield 185, 3) := by decide +kernel
theorem dX9_aLine_224 : decode cX9_aLine 224 = .ok (.imul, 1) := by decide +kernel
theorem dX9_aLine_225 : decode cX9_aLine 225 = .ok (.iconst 3, 1) := by decide +kernel
theorem dX9_aLine_226 : decode cX9_aLine 226 = .ok (.iadd, 1) := by decide +kernel
theorem dX9_aLine_227 : decode cX9_aLine 227 = .ok (.aload_n 0, 1) := by decide +kernel
theorem dX9_aLine_228 : decode cX9_aLine 228 = .ok (.getfield 182, 3) := by decide +kernel
theorem dX9_aLine_231 : decode cX9_aLine 231 = .ok (.iastore, 1) := by decide +kernel
theorem dX9_aLine_232 : decode cX9_aLine 232 = .ok (.aload_n 0, 1) := by decide +kernel
theorem dX9_aLine_233 : decode cX9_aLine 233 = .ok (.dup, 1) := by decide +kernel
theorem dX9_aLine_234 : decode cX9_aLine 234 = .ok (.getfield 185, 3) := by decide +kernel
theorem dX9_aLine_237 : decode cX9_aLine 237 = .ok (.iconst 1, 1) := by decide +kernel
theorem dX9_aLine_238 : decode cX9_aLine 238 = .ok (.iadd, 1) := by decide +kernel
theorem dX9_aLine_239 : decode cX9_aLine 239 = .ok (.putfield 185, 3) := by decide +kernel
theorem dX9_aLine_242 : decode cX9_aLine 242 = .ok (.aload_n 0, 1) := by decide +kernel
theorem dX9_aLine_243 : decode cX9_aLine 243 = .ok (.bipush 59, 2) := by decide +kernel
theorem dX9_aLine_245 : decode cX9_aLine 245 = .ok (.invokevirtual 191, 3) := by decide +kernel
theorem dX9_aLine_248 : decode cX9_aLine 248 = .ok (.ireturn, 1) := by decide +kernel
theorem dX9_tells_0 : decode cX9_tells 0 = .ok (.aload_n 0, 1) := by decide +kernel
theorem dX9_tells_1 : decode cX9_tells 1 = .ok (.getfield 71, 3) := by decide +kernel
theorem dX9_tells_4 : decode cX9_tells 4 = .ok (.iconst 4, 1) := by decide +kernel
theorem dX9_tells_5 : decode cX9_tells 5 = .ok (.iload_n 1, 1) := by decide +kernel
theorem dX9_tells_6 : decode cX9_tells 6 = .ok (.imul, 1) := by decide +kernel
theorem dX9_tells_7 : decode cX9_tells 7 = .ok (.iconst 1, 1) := by decide +kernel
theorem dX9_tells_8 : decode cX9_tells 8 = .ok (.iadd, 1) := by decide +kernel
theorem dX9_tells_9 : decode cX9_tells 9 = .ok (.iaload, 1) := by decide +kernel
theorem dX9_tells_10 : decode cX9_tells 10 = .ok (.istore_n 2, 1) := by decide +kernel
theorem dX9_tells_11 : decode cX9_tells 11 = .ok (.aload_n 0, 1) := by decide +kernel
theorem dX9_tells_12 : decode cX9_tells 12 = .ok (.getfield 71, 3) := by decide +kernel
theorem dX9_tells_15 : decode cX9_tells 15 = .ok (.iconst 4, 1) := by decide +kernel
theorem dX9_tells_16 : decode cX9_tells 16 = .ok (.iload_n 1, 1) := by decide +kernel
theorem dX9_tells_17 : decode cX9_tells 17 = .ok (.imul, 1) := by decide +kernel
theorem dX9_tells_18 : decode cX9_tells 18 = .ok (.iconst 2, 1) := by decide +kernel
theorem dX9_tells_19 : decode cX9_tells 19 = .ok (.iadd, 1) := by decide +kernel
theorem dX9_tells_20 : decode cX9_tells 20 = .ok (.iaload, 1) := by decide +kernel
theorem dX9_tells_21 : decode cX9_tells 21 = .ok (.istore_n 3, 1) := by decide +kernel
theorem dX9_tells_22 : decode cX9_tells 22 = .ok (.aload_n 0, 1) := by decide +kernel
theorem dX9_tells_23 : decode cX9_tells 23 = .ok (.getfield 71, 3) := by decide +kernel
theorem dX9_tells_26 : decode cX9_tells 26 = .ok (.iconst 4, 1) := by decide +kernel
theorem dX9_tells_27 : decode cX9_tells 27 = .ok (.iload_n 1, 1) := by decide +kernel
theorem dX9_tells_28 : decode cX9_tells 28 = .ok (.imul, 1) := by decide +kernel
theorem dX9_tells_29 : decode cX9_tells 29 = .ok (.iconst 3, 1) := by decide +kernel
theorem dX9_tells_30 : decode cX9_tells 30 = .ok (.iadd, 1) := by decide +kernel
theorem dX9_tells_31 : decode cX9_tells 31 = .ok (.iaload, 1) := by decide +kernel
theorem dX9_tells_32 : decode cX9_tells 32 = .ok (.istore 4, 2) := by decide +kernel
theorem dX9_tells_34 : decode cX9_tells 34 = .ok (.aload_n 0, 1) := by decide +kernel
theorem dX9_tells_35 : decode cX9_tells 35 = .ok (.getfield 71, 3) := by decide +kernel
theorem dX9_tells_38 : decode cX9_tells 38 = .ok (.iconst 4, 1) := by decide +kernel
theorem dX9_tells_39 : decode cX9_tells 39 = .ok (.iload_n 1, 1) := by decide +kernel
theorem dX9_tells_40 : decode cX9_tells 40 = .ok (.imul, 1) := by decide +kernel
theorem dX9_tells_41 : decode cX9_tells 41 = .ok (.iaload, 1) := by decide +kernel
theorem dX9_tells_42 : decode cX9_tells 42 = .ok (.tableswitch 138 3 5 #[26, 63, 106], 26) := by decide +kernel
theorem dX9_tells_68 : decode cX9_tells 68 = .ok (.aload_n 0, 1) := by decide +kernel
theorem dX9_tells_69 : decode cX9_tells 69 = .ok (.getfield 58, 3) := by decide +kernel
theorem dX9_tells_72 : decode cX9_tells 72 = .ok (.iload_n 2, 1) := by decide +kernel
theorem dX9_tells_73 : decode cX9_tells 73 = .ok (.iload_n 3, 1) := by decide +kernel
theorem dX9_tells_74 : decode cX9_tells 74 = .ok (.iastore, 1) := by decide +kernel
theorem dX9_tells_75 : decode cX9_tells 75 = .ok (.iconst 0, 1) := by decide +kernel
theorem dX9_tells_76 : decode cX9_tells 76 = .ok (.istore 5, 2) := by decide +kernel
theorem dX9_tells_78 : decode cX9_tells 78 = .ok (.iload 5, 2) := by decide +kernel
theorem dX9_tells_80 : decode cX9_tells 80 = .ok (.iconst 4, 1) := by decide +kernel
theorem dX9_tells_81 : decode cX9_tells 81 = .ok (.if_icmp .ge 21, 3) := by decide +kernel
theorem dX9_tells_84 : decode cX9_tells 84 = .ok (.aload_n 0, 1) := by decide +kernel
theorem dX9_tells_85 : decode cX9_tells 85 = .ok (.getfield 61, 3) := by decide +kernel
theorem dX9_tells_88 : decode cX9_tells 88 = .ok (.iconst 4, 1) := by decide +kernel
theorem dX9_tells_89 : decode cX9_tells 89 = .ok (.iload_n 2, 1) := by decide +kernel
theorem dX9_tells_90 : decode cX9_tells 90 = .ok (.imul, 1) := by decide +kernel
theorem dX9_tells_91 : decode cX9_tells 91 = .ok (.iload 5, 2) := by decide +kernel
theorem dX9_tells_93 : decode cX9_tells 93 = .ok (.iadd, 1) := by decide +kernel
theorem dX9_tells_94 : decode cX9_tells 94 = .ok (.iconst (-1), 1) := by decide +kernel
theorem dX9_tells_95 : decode cX9_tells 95 = .ok (.iastore, 1) := by decide +kernel
theorem dX9_tells_96 : decode cX9_tells 96 = .ok (.iinc 5 1, 3) := by decide +kernel
theorem dX9_tells_99 : decode cX9_tells 99 = .ok (.goto (-21), 3) := by decide +kernel
theorem dX9_tells_102 : decode cX9_tells 102 = .ok (.goto 85, 3) := by decide +kernel
theorem dX9_tells_105 : decode cX9_tells 105 = .ok (.aload_n 0, 1) := by decide +kernel
theorem dX9_tells_106 : decode cX9_tells 106 = .ok (.getfield 61, 3) := by decide +kernel
theorem dX9_tells_109 : decode cX9_tells 109 = .ok (.iconst 4, 1) := by decide +kernel
theorem dX9_tells_110 : decode cX9_tells 110 = .ok (.iload_n 2, 1) := by decide +kernel
theorem dX9_tells_111 : decode cX9_tells 111 = .ok (.imul, 1) := by decide +kernel
theorem dX9_tells_112 : decode cX9_tells 112 = .ok (.iload_n 3, 1) := by decide +kernel
theorem dX9_tells_113 : decode cX9_tells 113 = .ok (.iadd, 1) := by decide +kernel
theorem dX9_tells_114 : decode cX9_tells 114 = .ok (.aload_n 0, 1) := by decide +kernel
theorem dX9_tells_115 : decode cX9_tells 115 = .ok (.getfield 61, 3) := by decide +kernel
theorem dX9_tells_118 : decode cX9_tells 118 = .ok (.iconst 4, 1) := by decide +kernel
theorem dX9_tells_119 : decode cX9_tells 119 = .ok (.iload_n 2, 1) := by decide +kernel
theorem dX9_tells_120 : decode cX9_tells 120 = .ok (.imul, 1) := by decide +kernel
theorem dX9_tells_121 : decode cX9_tells 121 = .ok (.iload_n 3, 1) := by decide +kernel
theorem dX9_tells_122 : decode cX9_tells 122 = .ok (.iadd, 1) := by decide +kernel
theorem dX9_tells_123 : decode cX9_tells 123 = .ok (.iaload, 1) := by decide +kernel
theorem dX9_tells_124 : decode cX9_tells 124 = .ok (.iload 4, 2) := by decide +kernel
theorem dX9_tells_126 : decode cX9_tells 126 = .ok (.if_icmp .le 16, 3) := by decide +kernel
theorem dX9_tells_129 : decode cX9_tells 129 = .ok (.aload_n 0, 1) := by decide +kernel
theorem dX9_tells_130 : decode cX9_tells 130 = .ok (.getfield 61, 3) := by decide +kernel
theorem dX9_tells_133 : decode cX9_tells 133 = .ok (.iconst 4, 1) := by decide +kernel
theorem dX9_tells_134 : decode cX9_tells 134 = .ok (.iload_n 2, 1) := by decide +kernel
theorem dX9_tells_135 : decode cX9_tells 135 = .ok (.imul, 1) := by decide +kernel
theorem dX9_tells_136 : decode cX9_tells 136 = .ok (.iload_n 3, 1) := by decide +kernel
theorem dX9_tells_137 : decode cX9_tells 137 = .ok (.iadd, 1) := by decide +kernel
theorem dX9_tells_138 : decode cX9_tells 138 = .ok (.iaload, 1) := by decide +kernel
theorem dX9_tells_139 : decode cX9_tells 139 = .ok (.goto 5, 3) := by decide +kernel
theorem dX9_tells_142 : decode cX9_tells 142 = .ok (.iload 4, 2) := by decide +kernel
theorem dX9_tells_144 : decode cX9_tells 144 = .ok (.iastore, 1) := by decide +kernel
theorem dX9_tells_145 : decode cX9_tells 145 = .ok (.goto 42, 3) := by decide +kernel
theorem dX9_tells_148 : decode cX9_tells 148 = .ok (.iload_n 3, 1) := by decide +kernel
theorem dX9_tells_149 : decode cX9_tells 149 = .ok (.istore 5, 2) := by decide +kernel
theorem dX9_tells_151 : decode cX9_tells 151 = .ok (.iload 5, 2) := by decide +kernel
theorem dX9_tells_153 : decode cX9_tells 153 = .ok (.iload 4, 2) := by decide +kernel
theorem dX9_tells_155 : decode cX9_tells 155 = .ok (.if_icmp .gt 22, 3) := by decide +kernel
theorem dX9_tells_158 : decode cX9_tells 158 = .ok (.aload_n 0, 1) := by decide +kernel
theorem dX9_tells_159 : decode cX9_tells 159 = .ok (.getfield 64, 3) := by decide +kernel
theorem dX9_tells_162 : decode cX9_tells 162 = .ok (.bipush 52, 2) := by decide +kernel
theorem dX9_tells_164 : decode cX9_tells 164 = .ok (.iload_n 2, 1) := by decide +kernel
theorem dX9_tells_165 : decode cX9_tells 165 = .ok (.imul, 1) := by decide +kernel
theorem dX9_tells_166 : decode cX9_tells 166 = .ok (.iload 5, 2) := by decide +kernel
theorem dX9_tells_168 : decode cX9_tells 168 = .ok (.iadd, 1) := by decide +kernel
theorem dX9_tells_169 : decode cX9_tells 169 = .ok (.iconst 1, 1) := by decide +kernel
theorem dX9_tells_170 : decode cX9_tells 170 = .ok (.bastore, 1) := by decide +kernel
theorem dX9_tells_171 : decode cX9_tells 171 = .ok (.iinc 5 1, 3) := by decide +kernel
theorem dX9_tells_174 : decode cX9_tells 174 = .ok (.goto (-23), 3) := by decide +kernel
theorem dX9_tells_177 : decode cX9_tells 177 = .ok (.goto 10, 3) := by decide +kernel
theorem dX9_tells_180 : decode cX9_tells 180 = .ok (.aload_n 0, 1) := by decide +kernel
theorem dX9_tells_181 : decode cX9_tells 181 = .ok (.getfield 58, 3) := by decide +kernel
theorem dX9_tells_184 : decode cX9_tells 184 = .ok (.iload_n 2, 1) := by decide +kernel
theorem dX9_tells_185 : decode cX9_tells 185 = .ok (.iconst (-1), 1) := by decide +kernel
theorem dX9_tells_186 : decode cX9_tells 186 = .ok (.iastore, 1) := by decide +kernel
theorem dX9_tells_187 : decode cX9_tells 187 = .ok (.return_, 1) := by decide +kernel
theorem dX9_custom_0 : decode cX9_custom 0 = .ok (.aload_n 0, 1) := by decide +kernel
theorem dX9_custom_1 : decode cX9_custom 1 = .ok (.iconst 0, 1) := by decide +kernel
theorem dX9_custom_2 : decode cX9_custom 2 = .ok (.putfield 170, 3) := by decide +kernel
theorem dX9_custom_5 : decode cX9_custom 5 = .ok (.aload_n 0, 1) := by decide +kernel
theorem dX9_custom_6 : decode cX9_custom 6 = .ok (.iconst 0, 1) := by decide +kernel
theorem dX9_custom_7 : decode cX9_custom 7 = .ok (.putfield 144, 3) := by decide +kernel
theorem dX9_custom_10 : decode cX9_custom 10 = .ok (.aload_n 0, 1) := by decide +kernel
theorem dX9_custom_11 : decode cX9_custom 11 = .ok (.iconst 0, 1) := by decide +kernel
theorem dX9_custom_12 : decode cX9_custom 12 = .ok (.putfield 185, 3) := by decide +kernel
theorem dX9_custom_15 : decode cX9_custom 15 = .ok (.aload_n 0, 1) := by decide +kernel
theorem dX9_custom_16 : decode cX9_custom 16 = .ok (.invokevirtual 179, 3) := by decide +kernel
theorem dX9_custom_19 : decode cX9_custom 19 = .ok (.iconst 1, 1) := by decide +kernel
theorem dX9_custom_20 : decode cX9_custom 20 = .ok (.istore_n 1, 1) := by decide +kernel
theorem dX9_custom_21 : decode cX9_custom 21 = .ok (.iload_n 1, 1) := by decide +kernel
theorem dX9_custom_22 : decode cX9_custom 22 = .ok (.ifCond .eq 18, 3) := by decide +kernel
theorem dX9_custom_25 : decode cX9_custom 25 = .ok (.aload_n 0, 1) := by decide +kernel
theorem dX9_custom_26 : decode cX9_custom 26 = .ok (.getfield 154, 3) := by decide +kernel
theorem dX9_custom_29 : decode cX9_custom 29 = .ok (.ifCond .eq 11, 3) := by decide +kernel
theorem dX9_custom_32 : decode cX9_custom 32 = .ok (.aload_n 0, 1) := by decide +kernel
theorem dX9_custom_33 : decode cX9_custom 33 = .ok (.invokevirtual 194, 3) := by decide +kernel
theorem dX9_custom_36 : decode cX9_custom 36 = .ok (.istore_n 1, 1) := by decide +kernel
theorem dX9_custom_37 : decode cX9_custom 37 = .ok (.goto (-16), 3) := by decide +kernel
theorem dX9_custom_40 : decode cX9_custom 40 = .ok (.aload_n 0, 1) := by decide +kernel
theorem dX9_custom_41 : decode cX9_custom 41 = .ok (.iconst 0, 1) := by decide +kernel
theorem dX9_custom_42 : decode cX9_custom 42 = .ok (.putfield 125, 3) := by decide +kernel
theorem dX9_custom_45 : decode cX9_custom 45 = .ok (.aload_n 0, 1) := by decide +kernel
theorem dX9_custom_46 : decode cX9_custom 46 = .ok (.aload_n 0, 1) := by decide +kernel
theorem dX9_custom_47 : decode cX9_custom 47 = .ok (.getfield 170, 3) := by decide +kernel
theorem dX9_custom_50 : decode cX9_custom 50 = .ok (.putfield 198, 3) := by decide +kernel
theorem dX9_custom_53 : decode cX9_custom 53 = .ok (.aload_n 0, 1) := by decide +kernel
theorem dX9_custom_54 : decode cX9_custom 54 = .ok (.iload_n 1, 1) := by decide +kernel
theorem dX9_custom_55 : decode cX9_custom 55 = .ok (.ifCond .eq 7, 3) := by decide +kernel
theorem dX9_custom_58 : decode cX9_custom 58 = .ok (.iconst (-1), 1) := by decide +kernel
theorem dX9_custom_59 : decode cX9_custom 59 = .ok (.goto 7, 3) := by decide +kernel
theorem dX9_custom_62 : decode cX9_custom 62 = .ok (.aload_n 0, 1) := by decide +kernel
theorem dX9_custom_63 : decode cX9_custom 63 = .ok (.getfield 173, 3) := by decide +kernel
theorem dX9_custom_66 : decode cX9_custom 66 = .ok (.putfield 74, 3) := by decide +kernel
theorem dX9_custom_69 : decode cX9_custom 69 = .ok (.iload_n 1, 1) := by decide +kernel
theorem dX9_custom_70 : decode cX9_custom 70 = .ok (.ifCond .ne 5, 3) := by decide +kernel
theorem dX9_custom_73 : decode cX9_custom 73 = .ok (.iconst (-1), 1) := by decide +kernel
theorem dX9_custom_74 : decode cX9_custom 74 = .ok (.ireturn, 1) := by decide +kernel
theorem dX9_custom_75 : decode cX9_custom 75 = .ok (.iconst 0, 1) := by decide +kernel
theorem dX9_custom_76 : decode cX9_custom 76 = .ok (.istore_n 2, 1) := by decide +kernel
theorem dX9_custom_77 : decode cX9_custom 77 = .ok (.iload_n 2, 1) := by decide +kernel
theorem dX9_custom_78 : decode cX9_custom 78 = .ok (.bipush 6, 2) := by decide +kernel
theorem dX9_custom_80 : decode cX9_custom 80 = .ok (.if_icmp .ge 66, 3) := by decide +kernel
theorem dX9_custom_83 : decode cX9_custom 83 = .ok (.aload_n 0, 1) := by decide +kernel
theorem dX9_custom_84 : decode cX9_custom 84 = .ok (.getfield 58, 3) := by decide +kernel
theorem dX9_custom_87 : decode cX9_custom 87 = .ok (.iload_n 2, 1) := by decide +kernel
theorem dX9_custom_88 : decode cX9_custom 88 = .ok (.iconst (-1), 1) := by decide +kernel
theorem dX9_custom_89 : decode cX9_custom 89 = .ok (.iastore, 1) := by decide +kernel
theorem dX9_custom_90 : decode cX9_custom 90 = .ok (.iconst 0, 1) := by decide +kernel
theorem dX9_custom_91 : decode cX9_custom 91 = .ok (.istore_n 3, 1) := by decide +kernel
theorem dX9_custom_92 : decode cX9_custom 92 = .ok (.iload_n 3, 1) := by decide +kernel
theorem dX9_custom_93 : decode cX9_custom 93 = .ok (.iconst 4, 1) := by decide +kernel
theorem dX9_custom_94 : decode cX9_custom 94 = .ok (.if_icmp .ge 20, 3) := by decide +kernel
theorem dX9_custom_97 : decode cX9_custom 97 = .ok (.aload_n 0, 1) := by decide +kernel
theorem dX9_custom_98 : decode cX9_custom 98 = .ok (.getfield 61, 3) := by decide +kernel
theorem dX9_custom_101 : decode cX9_custom 101 = .ok (.iconst 4, 1) := by decide +kernel
theorem dX9_custom_102 : decode cX9_custom 102 = .ok (.iload_n 2, 1) := by decide +kernel
theorem dX9_custom_103 : decode cX9_custom 103 = .ok (.imul, 1) := by decide +kernel
theorem dX9_custom_104 : decode cX9_custom 104 = .ok (.iload_n 3, 1) := by decide +kernel
theorem dX9_custom_105 : decode cX9_custom 105 = .ok (.iadd, 1) := by decide +kernel
theorem dX9_custom_106 : decode cX9_custom 106 = .ok (.iconst (-1), 1) := by decide +kernel
theorem dX9_custom_107 : decode cX9_custom 107 = .ok (.iastore, 1) := by decide +kernel
theorem dX9_custom_108 : decode cX9_custom 108 = .ok (.iinc 3 1, 3) := by decide +kernel
theorem dX9_custom_111 : decode cX9_custom 111 = .ok (.goto (-19), 3) := by decide +kernel
theorem dX9_custom_114 : decode cX9_custom 114 = .ok (.iconst 0, 1) := by decide +kernel
theorem dX9_custom_115 : decode cX9_custom 115 = .ok (.istore_n 3, 1) := by decide +kernel
theorem dX9_custom_116 : decode cX9_custom 116 = .ok (.iload_n 3, 1) := by decide +kernel
theorem dX9_custom_117 : decode cX9_custom 117 = .ok (.bipush 52, 2) := by decide +kernel
theorem dX9_custom_119 : decode cX9_custom 119 = .ok (.if_icmp .ge 21, 3) := by decide +kernel
theorem dX9_custom_122 : decode cX9_custom 122 = .ok (.aload_n 0, 1) := by decide +kernel
theorem dX9_custom_123 : decode cX9_custom 123 = .ok (.getfield 64, 3) := by decide +kernel
theorem dX9_custom_126 : decode cX9_custom 126 = .ok (.bipush 52, 2) := by decide +kernel
theorem dX9_custom_128 : decode cX9_custom 128 = .ok (.iload_n 2, 1) := by decide +kernel
theorem dX9_custom_129 : decode cX9_custom 129 = .ok (.imul, 1) := by decide +kernel
theorem dX9_custom_130 : decode cX9_custom 130 = .ok (.iload_n 3, 1) := by decide +kernel
theorem dX9_custom_131 : decode cX9_custom 131 = .ok (.iadd, 1) := by decide +kernel
theorem dX9_custom_132 : decode cX9_custom 132 = .ok (.iconst 0, 1) := by decide +kernel
theorem dX9_custom_133 : decode cX9_custom 133 = .ok (.bastore, 1) := by decide +kernel
theorem dX9_custom_134 : decode cX9_custom 134 = .ok (.iinc 3 1, 3) := by decide +kernel
theorem dX9_custom_137 : decode cX9_custom 137 = .ok (.goto (-21), 3) := by decide +kernel
theorem dX9_custom_140 : decode cX9_custom 140 = .ok (.iinc 2 1, 3) := by decide +kernel
theorem dX9_custom_143 : decode cX9_custom 143 = .ok (.goto (-66), 3) := by decide +kernel
theorem dX9_custom_146 : decode cX9_custom 146 = .ok (.iconst 0, 1) := by decide +kernel
theorem dX9_custom_147 : decode cX9_custom 147 = .ok (.istore_n 2, 1) := by decide +kernel
theorem dX9_custom_148 : decode cX9_custom 148 = .ok (.iload_n 2, 1) := by decide +kernel
theorem dX9_custom_149 : decode cX9_custom 149 = .ok (.aload_n 0, 1) := by decide +kernel
theorem dX9_custom_150 : decode cX9_custom 150 = .ok (.getfield 185, 3) := by decide +kernel
theorem dX9_custom_153 : decode cX9_custom 153 = .ok (.if_icmp .ge 14, 3) := by decide +kernel
theorem dX9_custom_156 : decode cX9_custom 156 = .ok (.aload_n 0, 1) := by decide +kernel
theorem dX9_custom_157 : decode cX9_custom 157 = .ok (.iload_n 2, 1) := by decide +kernel
theorem dX9_custom_158 : decode cX9_custom 158 = .ok (.invokevirtual 201, 3) := by decide +kernel
theorem dX9_custom_161 : decode cX9_custom 161 = .ok (.iinc 2 1, 3) := by decide +kernel
theorem dX9_custom_164 : decode cX9_custom 164 = .ok (.goto (-16), 3) := by decide +kernel
theorem dX9_custom_167 : decode cX9_custom 167 = .ok (.aload_n 0, 1) := by decide +kernel
theorem dX9_custom_168 : decode cX9_custom 168 = .ok (.getfield 185, 3) := by decide +kernel
theorem dX9_custom_171 : decode cX9_custom 171 = .ok (.ireturn, 1) := by decide +kernel
theorem dX9_fault_0 : decode cX9_fault 0 = .ok (.iload_n 1, 1) := by decide +kernel
theorem dX9_fault_1 : decode cX9_fault 1 = .ok (.ifCond .ne 10, 3) := by decide +kernel
theorem dX9_fault_4 : decode cX9_fault 4 = .ok (.aload_n 0, 1) := by decide +kernel
theorem dX9_fault_5 : decode cX9_fault 5 = .ok (.getfield 198, 3) := by decide +kernel
theorem dX9_fault_8 : decode cX9_fault 8 = .ok (.goto 16, 3) := by decide +kernel
theorem dX9_fault_11 : decode cX9_fault 11 = .ok (.iload_n 1, 1) := by decide +kernel
theorem dX9_fault_12 : decode cX9_fault 12 = .ok (.iconst 1, 1) := by decide +kernel
theorem dX9_fault_13 : decode cX9_fault 13 = .ok (.if_icmp .ne 10, 3) := by decide +kernel
theorem dX9_fault_16 : decode cX9_fault 16 = .ok (.aload_n 0, 1) := by decide +kernel
theorem dX9_fault_17 : decode cX9_fault 17 = .ok (.getfield 74, 3) := by decide +kernel
theorem dX9_fault_20 : decode cX9_fault 20 = .ok (.goto 4, 3) := by decide +kernel
theorem dX9_fault_23 : decode cX9_fault 23 = .ok (.iconst (-1), 1) := by decide +kernel
theorem dX9_fault_24 : decode cX9_fault 24 = .ok (.ireturn, 1) := by decide +kernel
theorem dX9_isAllowed_0 : decode cX9_isAllowed 0 = .ok (.aload_n 0, 1) := by decide +kernel
theorem dX9_isAllowed_1 : decode cX9_isAllowed 1 = .ok (.getfield 64, 3) := by decide +kernel
theorem dX9_isAllowed_4 : decode cX9_isAllowed 4 = .ok (.bipush 52, 2) := by decide +kernel
theorem dX9_isAllowed_6 : decode cX9_isAllowed 6 = .ok (.iload_n 2, 1) := by decide +kernel
theorem dX9_isAllowed_7 : decode cX9_isAllowed 7 = .ok (.imul, 1) := by decide +kernel
theorem dX9_isAllowed_8 : decode cX9_isAllowed 8 = .ok (.iload_n 3, 1) := by decide +kernel
theorem dX9_isAllowed_9 : decode cX9_isAllowed 9 = .ok (.iadd, 1) := by decide +kernel
theorem dX9_isAllowed_10 : decode cX9_isAllowed 10 = .ok (.baload, 1) := by decide +kernel
theorem dX9_isAllowed_11 : decode cX9_isAllowed 11 = .ok (.ifCond .ne 41, 3) := by decide +kernel
theorem dX9_isAllowed_14 : decode cX9_isAllowed 14 = .ok (.aload_n 0, 1) := by decide +kernel
theorem dX9_isAllowed_15 : decode cX9_isAllowed 15 = .ok (.getfield 58, 3) := by decide +kernel
theorem dX9_isAllowed_18 : decode cX9_isAllowed 18 = .ok (.iload_n 2, 1) := by decide +kernel
theorem dX9_isAllowed_19 : decode cX9_isAllowed 19 = .ok (.iaload, 1) := by decide +kernel
theorem dX9_isAllowed_20 : decode cX9_isAllowed 20 = .ok (.iconst (-1), 1) := by decide +kernel
theorem dX9_isAllowed_21 : decode cX9_isAllowed 21 = .ok (.if_icmp .eq 27, 3) := by decide +kernel
theorem dX9_isAllowed_24 : decode cX9_isAllowed 24 = .ok (.aload_n 0, 1) := by decide +kernel
theorem dX9_isAllowed_25 : decode cX9_isAllowed 25 = .ok (.getfield 58, 3) := by decide +kernel
theorem dX9_isAllowed_28 : decode cX9_isAllowed 28 = .ok (.iload_n 2, 1) := by decide +kernel
theorem dX9_isAllowed_29 : decode cX9_isAllowed 29 = .ok (.iaload, 1) := by decide +kernel
theorem dX9_isAllowed_30 : decode cX9_isAllowed 30 = .ok (.iload_n 1, 1) := by decide +kernel
theorem dX9_isAllowed_31 : decode cX9_isAllowed 31 = .ok (.if_icmp .eq 17, 3) := by decide +kernel
theorem dX9_isAllowed_34 : decode cX9_isAllowed 34 = .ok (.aload_n 0, 1) := by decide +kernel
theorem dX9_isAllowed_35 : decode cX9_isAllowed 35 = .ok (.getfield 61, 3) := by decide +kernel
theorem dX9_isAllowed_38 : decode cX9_isAllowed 38 = .ok (.iconst 4, 1) := by decide +kernel
theorem dX9_isAllowed_39 : decode cX9_isAllowed 39 = .ok (.iload_n 2, 1) := by decide +kernel
theorem dX9_isAllowed_40 : decode cX9_isAllowed 40 = .ok (.imul, 1) := by decide +kernel
theorem dX9_isAllowed_41 : decode cX9_isAllowed 41 = .ok (.iload_n 1, 1) := by decide +kernel
theorem dX9_isAllowed_42 : decode cX9_isAllowed 42 = .ok (.iadd, 1) := by decide +kernel
theorem dX9_isAllowed_43 : decode cX9_isAllowed 43 = .ok (.iaload, 1) := by decide +kernel
theorem dX9_isAllowed_44 : decode cX9_isAllowed 44 = .ok (.iload_n 3, 1) := by decide +kernel
theorem dX9_isAllowed_45 : decode cX9_isAllowed 45 = .ok (.if_icmp .lt 7, 3) := by decide +kernel
theorem dX9_isAllowed_48 : decode cX9_isAllowed 48 = .ok (.iconst 1, 1) := by decide +kernel
theorem dX9_isAllowed_49 : decode cX9_isAllowed 49 = .ok (.goto 4, 3) := by decide +kernel
theorem dX9_isAllowed_52 : decode cX9_isAllowed 52 = .ok (.iconst 0, 1) := by decide +kernel
theorem dX9_isAllowed_53 : decode cX9_isAllowed 53 = .ok (.ireturn, 1) := by decide +kernel
theorem dX9_may_0 : decode cX9_may 0 = .ok (.iload_n 1, 1) := by decide +kernel
theorem dX9_may_1 : decode cX9_may 1 = .ok (.invokestatic 100, 3) := by decide +kernel
theorem dX9_may_4 : decode cX9_may 4 = .ok (.ifCond .eq 18, 3) := by decide +kernel
theorem dX9_may_7 : decode cX9_may 7 = .ok (.iload_n 2, 1) := by decide +kernel
theorem dX9_may_8 : decode cX9_may 8 = .ok (.invokestatic 114, 3) := by decide +kernel
theorem dX9_may_11 : decode cX9_may 11 = .ok (.ifCond .eq 11, 3) := by decide +kernel
theorem dX9_may_14 : decode cX9_may 14 = .ok (.iload_n 3, 1) := by decide +kernel
theorem dX9_may_15 : decode cX9_may 15 = .ok (.iconst 0, 1) := by decide +kernel
theorem dX9_may_16 : decode cX9_may 16 = .ok (.invokestatic 107, 3) := by decide +kernel
theorem dX9_may_19 : decode cX9_may 19 = .ok (.ifCond .ne 7, 3) := by decide +kernel
theorem dX9_may_22 : decode cX9_may 22 = .ok (.iconst (-1), 1) := by decide +kernel
theorem dX9_may_23 : decode cX9_may 23 = .ok (.goto 18, 3) := by decide +kernel
theorem dX9_may_26 : decode cX9_may 26 = .ok (.aload_n 0, 1) := by decide +kernel
theorem dX9_may_27 : decode cX9_may 27 = .ok (.iload_n 1, 1) := by decide +kernel
theorem dX9_may_28 : decode cX9_may 28 = .ok (.iload_n 2, 1) := by decide +kernel
theorem dX9_may_29 : decode cX9_may 29 = .ok (.iload_n 3, 1) := by decide +kernel
theorem dX9_may_30 : decode cX9_may 30 = .ok (.invokevirtual 204, 3) := by decide +kernel
theorem dX9_may_33 : decode cX9_may 33 = .ok (.ifCond .eq 7, 3) := by decide +kernel
theorem dX9_may_36 : decode cX9_may 36 = .ok (.iconst 1, 1) := by decide +kernel
theorem dX9_may_37 : decode cX9_may 37 = .ok (.goto 4, 3) := by decide +kernel
theorem dX9_may_40 : decode cX9_may 40 = .ok (.iconst 0, 1) := by decide +kernel
theorem dX9_may_41 : decode cX9_may 41 = .ok (.ireturn, 1) := by decide +kernel
theorem dX9_left_0 : decode cX9_left 0 = .ok (.aload_n 0, 1) := by decide +kernel
theorem dX9_left_1 : decode cX9_left 1 = .ok (.getfield 55, 3) := by decide +kernel
theorem dX9_left_4 : decode cX9_left 4 = .ok (.iload_n 2, 1) := by decide +kernel
theorem dX9_left_5 : decode cX9_left 5 = .ok (.iaload, 1) := by decide +kernel
theorem dX9_left_6 : decode cX9_left 6 = .ok (.iload_n 1, 1) := by decide +kernel
theorem dX9_left_7 : decode cX9_left 7 = .ok (.if_icmp .ne 19, 3) := by decide +kernel
theorem dX9_left_10 : decode cX9_left 10 = .ok (.aload_n 0, 1) := by decide +kernel
theorem dX9_left_11 : decode cX9_left 11 = .ok (.getfield 43, 3) := by decide +kernel
theorem dX9_left_14 : decode cX9_left 14 = .ok (.iload_n 2, 1) := by decide +kernel
theorem dX9_left_15 : decode cX9_left 15 = .ok (.iaload, 1) := by decide +kernel
theorem dX9_left_16 : decode cX9_left 16 = .ok (.aload_n 0, 1) := by decide +kernel
theorem dX9_left_17 : decode cX9_left 17 = .ok (.getfield 52, 3) := by decide +kernel
theorem dX9_left_20 : decode cX9_left 20 = .ok (.iload_n 2, 1) := by decide +kernel
theorem dX9_left_21 : decode cX9_left 21 = .ok (.iaload, 1) := by decide +kernel
theorem dX9_left_22 : decode cX9_left 22 = .ok (.isub, 1) := by decide +kernel
theorem dX9_left_23 : decode cX9_left 23 = .ok (.goto 9, 3) := by decide +kernel
theorem dX9_left_26 : decode cX9_left 26 = .ok (.aload_n 0, 1) := by decide +kernel
theorem dX9_left_27 : decode cX9_left 27 = .ok (.getfield 43, 3) := by decide +kernel
theorem dX9_left_30 : decode cX9_left 30 = .ok (.iload_n 2, 1) := by decide +kernel
theorem dX9_left_31 : decode cX9_left 31 = .ok (.iaload, 1) := by decide +kernel
theorem dX9_left_32 : decode cX9_left 32 = .ok (.ireturn, 1) := by decide +kernel
theorem dX9_sorts_0 : decode cX9_sorts 0 = .ok (.aload_n 0, 1) := by decide +kernel
theorem dX9_sorts_1 : decode cX9_sorts 1 = .ok (.iconst 0, 1) := by decide +kernel
theorem dX9_sorts_2 : decode cX9_sorts 2 = .ok (.putfield 207, 3) := by decide +kernel
theorem dX9_sorts_5 : decode cX9_sorts 5 = .ok (.iconst 0, 1) := by decide +kernel
theorem dX9_sorts_6 : decode cX9_sorts 6 = .ok (.istore_n 2, 1) := by decide +kernel
theorem dX9_sorts_7 : decode cX9_sorts 7 = .ok (.iload_n 2, 1) := by decide +kernel
theorem dX9_sorts_8 : decode cX9_sorts 8 = .ok (.aload_n 0, 1) := by decide +kernel
theorem dX9_sorts_9 : decode cX9_sorts 9 = .ok (.getfield 111, 3) := by decide +kernel
theorem dX9_sorts_12 : decode cX9_sorts 12 = .ok (.if_icmp .ge 88, 3) := by decide +kernel
theorem dX9_sorts_15 : decode cX9_sorts 15 = .ok (.iload_n 1, 1) := by decide +kernel
theorem dX9_sorts_16 : decode cX9_sorts 16 = .ok (.iload_n 2, 1) := by decide +kernel
theorem dX9_sorts_17 : decode cX9_sorts 17 = .ok (.ishr, 1) := by decide +kernel
theorem dX9_sorts_18 : decode cX9_sorts 18 = .ok (.iconst 1, 1) := by decide +kernel
theorem dX9_sorts_19 : decode cX9_sorts 19 = .ok (.iand, 1) := by decide +kernel
theorem dX9_sorts_20 : decode cX9_sorts 20 = .ok (.ifCond .ne 6, 3) := by decide +kernel
theorem dX9_sorts_23 : decode cX9_sorts 23 = .ok (.goto 71, 3) := by decide +kernel
theorem dX9_sorts_26 : decode cX9_sorts 26 = .ok (.aload_n 0, 1) := by decide +kernel
theorem dX9_sorts_27 : decode cX9_sorts 27 = .ok (.getfield 207, 3) := by decide +kernel
theorem dX9_sorts_30 : decode cX9_sorts 30 = .ok (.istore_n 3, 1) := by decide +kernel
theorem dX9_sorts_31 : decode cX9_sorts 31 = .ok (.iload_n 3, 1) := by decide +kernel
theorem dX9_sorts_32 : decode cX9_sorts 32 = .ok (.ifCond .le 45, 3) := by decide +kernel
theorem dX9_sorts_35 : decode cX9_sorts 35 = .ok (.aload_n 0, 1) := by decide +kernel
theorem dX9_sorts_36 : decode cX9_sorts 36 = .ok (.getfield 34, 3) := by decide +kernel
theorem dX9_sorts_39 : decode cX9_sorts 39 = .ok (.aload_n 0, 1) := by decide +kernel
theorem dX9_sorts_40 : decode cX9_sorts 40 = .ok (.getfield 78, 3) := by decide +kernel
theorem dX9_sorts_43 : decode cX9_sorts 43 = .ok (.iload_n 3, 1) := by decide +kernel
theorem dX9_sorts_44 : decode cX9_sorts 44 = .ok (.iconst 1, 1) := by decide +kernel
theorem dX9_sorts_45 : decode cX9_sorts 45 = .ok (.isub, 1) := by decide +kernel
theorem dX9_sorts_46 : decode cX9_sorts 46 = .ok (.iaload, 1) := by decide +kernel
theorem dX9_sorts_47 : decode cX9_sorts 47 = .ok (.iaload, 1) := by decide +kernel
theorem dX9_sorts_48 : decode cX9_sorts 48 = .ok (.aload_n 0, 1) := by decide +kernel
theorem dX9_sorts_49 : decode cX9_sorts 49 = .ok (.getfield 34, 3) := by decide +kernel
theorem dX9_sorts_52 : decode cX9_sorts 52 = .ok (.iload_n 2, 1) := by decide +kernel
theorem dX9_sorts_53 : decode cX9_sorts 53 = .ok (.iaload, 1) := by decide +kernel
theorem dX9_sorts_54 : decode cX9_sorts 54 = .ok (.if_icmp .le 23, 3) := by decide +kernel
theorem dX9_sorts_57 : decode cX9_sorts 57 = .ok (.aload_n 0, 1) := by decide +kernel
theorem dX9_sorts_58 : decode cX9_sorts 58 = .ok (.getfield 78, 3) := by decide +kernel
theorem dX9_sorts_61 : decode cX9_sorts 61 = .ok (.iload_n 3, 1) := by decide +kernel
theorem dX9_sorts_62 : decode cX9_sorts 62 = .ok (.aload_n 0, 1) := by decide +kernel
theorem dX9_sorts_63 : decode cX9_sorts 63 = .ok (.getfield 78, 3) := by decide +kernel
theorem dX9_sorts_66 : decode cX9_sorts 66 = .ok (.iload_n 3, 1) := by decide +kernel
theorem dX9_sorts_67 : decode cX9_sorts 67 = .ok (.iconst 1, 1) := by decide +kernel
theorem dX9_sorts_68 : decode cX9_sorts 68 = .ok (.isub, 1) := by decide +kernel
theorem dX9_sorts_69 : decode cX9_sorts 69 = .ok (.iaload, 1) := by decide +kernel
theorem dX9_sorts_70 : decode cX9_sorts 70 = .ok (.iastore, 1) := by decide +kernel
theorem dX9_sorts_71 : decode cX9_sorts 71 = .ok (.iinc 3 (-1), 3) := by decide +kernel
theorem dX9_sorts_74 : decode cX9_sorts 74 = .ok (.goto (-43), 3) := by decide +kernel
theorem dX9_sorts_77 : decode cX9_sorts 77 = .ok (.aload_n 0, 1) := by decide +kernel
theorem dX9_sorts_78 : decode cX9_sorts 78 = .ok (.getfield 78, 3) := by decide +kernel
theorem dX9_sorts_81 : decode cX9_sorts 81 = .ok (.iload_n 3, 1) := by decide +kernel
theorem dX9_sorts_82 : decode cX9_sorts 82 = .ok (.iload_n 2, 1) := by decide +kernel
theorem dX9_sorts_83 : decode cX9_sorts 83 = .ok (.iastore, 1) := by decide +kernel
theorem dX9_sorts_84 : decode cX9_sorts 84 = .ok (.aload_n 0, 1) := by decide +kernel
theorem dX9_sorts_85 : decode cX9_sorts 85 = .ok (.dup, 1) := by decide +kernel
theorem dX9_sorts_86 : decode cX9_sorts 86 = .ok (.getfield 207, 3) := by decide +kernel
theorem dX9_sorts_89 : decode cX9_sorts 89 = .ok (.iconst 1, 1) := by decide +kernel
theorem dX9_sorts_90 : decode cX9_sorts 90 = .ok (.iadd, 1) := by decide +kernel
theorem dX9_sorts_91 : decode cX9_sorts 91 = .ok (.putfield 207, 3) := by decide +kernel
theorem dX9_sorts_94 : decode cX9_sorts 94 = .ok (.iinc 2 1, 3) := by decide +kernel
theorem dX9_sorts_97 : decode cX9_sorts 97 = .ok (.goto (-90), 3) := by decide +kernel
theorem dX9_sorts_100 : decode cX9_sorts 100 = .ok (.return_, 1) := by decide +kernel
theorem dX9_does_0 : decode cX9_does 0 = .ok (.aload_n 0, 1) := by decide +kernel
theorem dX9_does_1 : decode cX9_does 1 = .ok (.iload_n 2, 1) := by decide +kernel
theorem dX9_does_2 : decode cX9_does 2 = .ok (.invokevirtual 210, 3) := by decide +kernel
theorem dX9_does_5 : decode cX9_does 5 = .ok (.iconst 0, 1) := by decide +kernel
theorem dX9_does_6 : decode cX9_does 6 = .ok (.istore_n 3, 1) := by decide +kernel
theorem dX9_does_7 : decode cX9_does 7 = .ok (.aload_n 0, 1) := by decide +kernel
theorem dX9_does_8 : decode cX9_does 8 = .ok (.getfield 104, 3) := by decide +kernel
theorem dX9_does_11 : decode cX9_does 11 = .ok (.istore 4, 2) := by decide +kernel
theorem dX9_does_13 : decode cX9_does 13 = .ok (.aload_n 0, 1) := by decide +kernel
theorem dX9_does_14 : decode cX9_does 14 = .ok (.getfield 7, 3) := by decide +kernel
theorem dX9_does_17 : decode cX9_does 17 = .ok (.bipush 52, 2) := by decide +kernel
theorem dX9_does_19 : decode cX9_does 19 = .ok (.iload_n 1, 1) := by decide +kernel
theorem dX9_does_20 : decode cX9_does 20 = .ok (.imul, 1) := by decide +kernel
theorem dX9_does_21 : decode cX9_does 21 = .ok (.aload_n 0, 1) := by decide +kernel
theorem dX9_does_22 : decode cX9_does 22 = .ok (.getfield 104, 3) := by decide +kernel
theorem dX9_does_25 : decode cX9_does 25 = .ok (.iadd, 1) := by decide +kernel
theorem dX9_does_26 : decode cX9_does 26 = .ok (.iaload, 1) := by decide +kernel
theorem dX9_does_27 : decode cX9_does 27 = .ok (.istore 5, 2) := by decide +kernel
theorem dX9_does_29 : decode cX9_does 29 = .ok (.iconst 0, 1) := by decide +kernel
theorem dX9_does_30 : decode cX9_does 30 = .ok (.istore 6, 2) := by decide +kernel
theorem dX9_does_32 : decode cX9_does 32 = .ok (.iload 6, 2) := by decide +kernel
theorem dX9_does_34 : decode cX9_does 34 = .ok (.aload_n 0, 1) := by decide +kernel
theorem dX9_does_35 : decode cX9_does 35 = .ok (.getfield 207, 3) := by decide +kernel
theorem dX9_does_38 : decode cX9_does 38 = .ok (.if_icmp .ge 194, 3) := by decide +kernel
theorem dX9_does_41 : decode cX9_does 41 = .ok (.aload_n 0, 1) := by decide +kernel
theorem dX9_does_42 : decode cX9_does 42 = .ok (.getfield 78, 3) := by decide +kernel
theorem dX9_does_45 : decode cX9_does 45 = .ok (.iload 6, 2) := by decide +kernel
theorem dX9_does_47 : decode cX9_does 47 = .ok (.iaload, 1) := by decide +kernel
theorem dX9_does_48 : decode cX9_does 48 = .ok (.istore 7, 2) := by decide +kernel
theorem dX9_does_50 : decode cX9_does 50 = .ok (.iload_n 3, 1) := by decide +kernel
theorem dX9_does_51 : decode cX9_does 51 = .ok (.aload_n 0, 1) := by decide +kernel
theorem dX9_does_52 : decode cX9_does 52 = .ok (.getfield 46, 3) := by decide +kernel
theorem dX9_does_55 : decode cX9_does 55 = .ok (.iload 7, 2) := by decide +kernel
theorem dX9_does_57 : decode cX9_does 57 = .ok (.iaload, 1) := by decide +kernel
theorem dX9_does_58 : decode cX9_does 58 = .ok (.iadd, 1) := by decide +kernel
theorem dX9_does_59 : decode cX9_does 59 = .ok (.istore_n 3, 1) := by decide +kernel
theorem dX9_does_60 : decode cX9_does 60 = .ok (.iload_n 3, 1) := by decide +kernel
theorem dX9_does_61 : decode cX9_does 61 = .ok (.aload_n 0, 1) := by decide +kernel
theorem dX9_does_62 : decode cX9_does 62 = .ok (.getfield 13, 3) := by decide +kernel
theorem dX9_does_65 : decode cX9_does 65 = .ok (.iload_n 1, 1) := by decide +kernel
theorem dX9_does_66 : decode cX9_does 66 = .ok (.iaload, 1) := by decide +kernel
theorem dX9_does_67 : decode cX9_does 67 = .ok (.if_icmp .le 5, 3) := by decide +kernel
theorem dX9_does_70 : decode cX9_does 70 = .ok (.iconst 0, 1) := by decide +kernel
theorem dX9_does_71 : decode cX9_does 71 = .ok (.ireturn, 1) := by decide +kernel
theorem dX9_does_72 : decode cX9_does 72 = .ok (.iload 5, 2) := by decide +kernel
theorem dX9_does_74 : decode cX9_does 74 = .ok (.ifCond .ne 30, 3) := by decide +kernel
theorem dX9_does_77 : decode cX9_does 77 = .ok (.iload 4, 2) := by decide +kernel
theorem dX9_does_79 : decode cX9_does 79 = .ok (.bipush 51, 2) := by decide +kernel
theorem dX9_does_81 : decode cX9_does 81 = .ok (.if_icmp .ge 23, 3) := by decide +kernel
theorem dX9_does_84 : decode cX9_does 84 = .ok (.iinc 4 1, 3) := by decide +kernel
theorem dX9_does_87 : decode cX9_does 87 = .ok (.aload_n 0, 1) := by decide +kernel
theorem dX9_does_88 : decode cX9_does 88 = .ok (.getfield 7, 3) := by decide +kernel
theorem dX9_does_91 : decode cX9_does 91 = .ok (.bipush 52, 2) := by decide +kernel
theorem dX9_does_93 : decode cX9_does 93 = .ok (.iload_n 1, 1) := by decide +kernel
theorem dX9_does_94 : decode cX9_does 94 = .ok (.imul, 1) := by decide +kernel
theorem dX9_does_95 : decode cX9_does 95 = .ok (.iload 4, 2) := by decide +kernel
theorem dX9_does_97 : decode cX9_does 97 = .ok (.iadd, 1) := by decide +kernel
theorem dX9_does_98 : decode cX9_does 98 = .ok (.iaload, 1) := by decide +kernel
theorem dX9_does_99 : decode cX9_does 99 = .ok (.istore 5, 2) := by decide +kernel
theorem dX9_does_101 : decode cX9_does 101 = .ok (.goto (-29), 3) := by decide +kernel
theorem dX9_does_104 : decode cX9_does 104 = .ok (.iload 4, 2) := by decide +kernel
theorem dX9_does_106 : decode cX9_does 106 = .ok (.istore 8, 2) := by decide +kernel
theorem dX9_does_108 : decode cX9_does 108 = .ok (.aload_n 0, 1) := by decide +kernel
theorem dX9_does_109 : decode cX9_does 109 = .ok (.iload_n 1, 1) := by decide +kernel
theorem dX9_does_110 : decode cX9_does 110 = .ok (.iload 7, 2) := by decide +kernel
theorem dX9_does_112 : decode cX9_does 112 = .ok (.invokevirtual 213, 3) := by decide +kernel
theorem dX9_does_115 : decode cX9_does 115 = .ok (.istore 9, 2) := by decide +kernel
theorem dX9_does_117 : decode cX9_does 117 = .ok (.iload 9, 2) := by decide +kernel
theorem dX9_does_119 : decode cX9_does 119 = .ok (.iload 5, 2) := by decide +kernel
theorem dX9_does_121 : decode cX9_does 121 = .ok (.if_icmp .le 39, 3) := by decide +kernel
theorem dX9_does_124 : decode cX9_does 124 = .ok (.iload 4, 2) := by decide +kernel
theorem dX9_does_126 : decode cX9_does 126 = .ok (.bipush 51, 2) := by decide +kernel
theorem dX9_does_128 : decode cX9_does 128 = .ok (.if_icmp .ne 5, 3) := by decide +kernel
theorem dX9_does_131 : decode cX9_does 131 = .ok (.iconst 0, 1) := by decide +kernel
theorem dX9_does_132 : decode cX9_does 132 = .ok (.ireturn, 1) := by decide +kernel
theorem dX9_does_133 : decode cX9_does 133 = .ok (.iload 9, 2) := by decide +kernel
theorem dX9_does_135 : decode cX9_does 135 = .ok (.iload 5, 2) := by decide +kernel
theorem dX9_does_137 : decode cX9_does 137 = .ok (.isub, 1) := by decide +kernel
theorem dX9_does_138 : decode cX9_does 138 = .ok (.istore 9, 2) := by decide +kernel
theorem dX9_does_140 : decode cX9_does 140 = .ok (.iinc 4 1, 3) := by decide +kernel
theorem dX9_does_143 : decode cX9_does 143 = .ok (.aload_n 0, 1) := by decide +kernel
theorem dX9_does_144 : decode cX9_does 144 = .ok (.getfield 7, 3) := by decide +kernel
theorem dX9_does_147 : decode cX9_does 147 = .ok (.bipush 52, 2) := by decide +kernel
theorem dX9_does_149 : decode cX9_does 149 = .ok (.iload_n 1, 1) := by decide +kernel
theorem dX9_does_150 : decode cX9_does 150 = .ok (.imul, 1) := by decide +kernel
theorem dX9_does_151 : decode cX9_does 151 = .ok (.iload 4, 2) := by decide +kernel
theorem dX9_does_153 : decode cX9_does 153 = .ok (.iadd, 1) := by decide +kernel
theorem dX9_does_154 : decode cX9_does 154 = .ok (.iaload, 1) := by decide +kernel
theorem dX9_does_155 : decode cX9_does 155 = .ok (.istore 5, 2) := by decide +kernel
theorem dX9_does_157 : decode cX9_does 157 = .ok (.goto (-40), 3) := by decide +kernel
theorem dX9_does_160 : decode cX9_does 160 = .ok (.iload 5, 2) := by decide +kernel
theorem dX9_does_162 : decode cX9_does 162 = .ok (.iload 9, 2) := by decide +kernel
theorem dX9_does_164 : decode cX9_does 164 = .ok (.isub, 1) := by decide +kernel
theorem dX9_does_165 : decode cX9_does 165 = .ok (.istore 5, 2) := by decide +kernel
theorem dX9_does_167 : decode cX9_does 167 = .ok (.aload_n 0, 1) := by decide +kernel
theorem dX9_does_168 : decode cX9_does 168 = .ok (.getfield 81, 3) := by decide +kernel
theorem dX9_does_171 : decode cX9_does 171 = .ok (.iload 7, 2) := by decide +kernel
theorem dX9_does_173 : decode cX9_does 173 = .ok (.iload 4, 2) := by decide +kernel
theorem dX9_does_175 : decode cX9_does 175 = .ok (.iastore, 1) := by decide +kernel
theorem dX9_does_176 : decode cX9_does 176 = .ok (.iload 4, 2) := by decide +kernel
theorem dX9_does_178 : decode cX9_does 178 = .ok (.aload_n 0, 1) := by decide +kernel
theorem dX9_does_179 : decode cX9_does 179 = .ok (.getfield 34, 3) := by decide +kernel
theorem dX9_does_182 : decode cX9_does 182 = .ok (.iload 7, 2) := by decide +kernel
theorem dX9_does_184 : decode cX9_does 184 = .ok (.iaload, 1) := by decide +kernel
theorem dX9_does_185 : decode cX9_does 185 = .ok (.if_icmp .le 5, 3) := by decide +kernel
theorem dX9_does_188 : decode cX9_does 188 = .ok (.iconst 0, 1) := by decide +kernel
theorem dX9_does_189 : decode cX9_does 189 = .ok (.ireturn, 1) := by decide +kernel
theorem dX9_does_190 : decode cX9_does 190 = .ok (.iload 8, 2) := by decide +kernel
theorem dX9_does_192 : decode cX9_does 192 = .ok (.istore 10, 2) := by decide +kernel
theorem dX9_does_194 : decode cX9_does 194 = .ok (.iload 10, 2) := by decide +kernel
theorem dX9_does_196 : decode cX9_does 196 = .ok (.iload 4, 2) := by decide +kernel
theorem dX9_does_198 : decode cX9_does 198 = .ok (.if_icmp .gt 28, 3) := by decide +kernel
theorem dX9_does_201 : decode cX9_does 201 = .ok (.aload_n 0, 1) := by decide +kernel
theorem dX9_does_202 : decode cX9_does 202 = .ok (.iload_n 1, 1) := by decide +kernel
theorem dX9_does_203 : decode cX9_does 203 = .ok (.aload_n 0, 1) := by decide +kernel
theorem dX9_does_204 : decode cX9_does 204 = .ok (.getfield 28, 3) := by decide +kernel
theorem dX9_does_207 : decode cX9_does 207 = .ok (.iload 7, 2) := by decide +kernel
theorem dX9_does_209 : decode cX9_does 209 = .ok (.iaload, 1) := by decide +kernel
theorem dX9_does_210 : decode cX9_does 210 = .ok (.iload 10, 2) := by decide +kernel
theorem dX9_does_212 : decode cX9_does 212 = .ok (.invokevirtual 204, 3) := by decide +kernel
theorem dX9_does_215 : decode cX9_does 215 = .ok (.ifCond .ne 5, 3) := by decide +kernel
theorem dX9_does_218 : decode cX9_does 218 = .ok (.iconst 0, 1) := by decide +kernel
theorem dX9_does_219 : decode cX9_does 219 = .ok (.ireturn, 1) := by decide +kernel
theorem dX9_does_220 : decode cX9_does 220 = .ok (.iinc 10 1, 3) := by decide +kernel
theorem dX9_does_223 : decode cX9_does 223 = .ok (.goto (-29), 3) := by decide +kernel
theorem dX9_does_226 : decode cX9_does 226 = .ok (.iinc 6 1, 3) := by decide +kernel
theorem dX9_does_229 : decode cX9_does 229 = .ok (.goto (-197), 3) := by decide +kernel
theorem dX9_does_232 : decode cX9_does 232 = .ok (.iconst 1, 1) := by decide +kernel
theorem dX9_does_233 : decode cX9_does 233 = .ok (.ireturn, 1) := by decide +kernel
theorem dX9_canAll_0 : decode cX9_canAll 0 = .ok (.aload_n 0, 1) := by decide +kernel
theorem dX9_canAll_1 : decode cX9_canAll 1 = .ok (.getfield 84, 3) := by decide +kernel
theorem dX9_canAll_4 : decode cX9_canAll 4 = .ok (.aload_n 0, 1) := by decide +kernel
theorem dX9_canAll_5 : decode cX9_canAll 5 = .ok (.getfield 93, 3) := by decide +kernel
theorem dX9_canAll_8 : decode cX9_canAll 8 = .ok (.iconst 0, 1) := by decide +kernel
theorem dX9_canAll_9 : decode cX9_canAll 9 = .ok (.iaload, 1) := by decide +kernel
theorem dX9_canAll_10 : decode cX9_canAll 10 = .ok (.baload, 1) := by decide +kernel
theorem dX9_canAll_11 : decode cX9_canAll 11 = .ok (.ifCond .eq 61, 3) := by decide +kernel
theorem dX9_canAll_14 : decode cX9_canAll 14 = .ok (.aload_n 0, 1) := by decide +kernel
theorem dX9_canAll_15 : decode cX9_canAll 15 = .ok (.getfield 84, 3) := by decide +kernel
theorem dX9_canAll_18 : decode cX9_canAll 18 = .ok (.sipush 128, 3) := by decide +kernel
theorem dX9_canAll_21 : decode cX9_canAll 21 = .ok (.aload_n 0, 1) := by decide +kernel
theorem dX9_canAll_22 : decode cX9_canAll 22 = .ok (.getfield 93, 3) := by decide +kernel
theorem dX9_canAll_25 : decode cX9_canAll 25 = .ok (.iconst 1, 1) := by decide +kernel
theorem dX9_canAll_26 : decode cX9_canAll 26 = .ok (.iaload, 1) := by decide +kernel
theorem dX9_canAll_27 : decode cX9_canAll 27 = .ok (.iadd, 1) := by decide +kernel
theorem dX9_canAll_28 : decode cX9_canAll 28 = .ok (.baload, 1) := by decide +kernel
theorem dX9_canAll_29 : decode cX9_canAll 29 = .ok (.ifCond .eq 43, 3) := by decide +kernel
theorem dX9_canAll_32 : decode cX9_canAll 32 = .ok (.aload_n 0, 1) := by decide +kernel
theorem dX9_canAll_33 : decode cX9_canAll 33 = .ok (.getfield 84, 3) := by decide +kernel
theorem dX9_canAll_36 : decode cX9_canAll 36 = .ok (.sipush 256, 3) := by decide +kernel
theorem dX9_canAll_39 : decode cX9_canAll 39 = .ok (.aload_n 0, 1) := by decide +kernel
theorem dX9_canAll_40 : decode cX9_canAll 40 = .ok (.getfield 93, 3) := by decide +kernel
theorem dX9_canAll_43 : decode cX9_canAll 43 = .ok (.iconst 2, 1) := by decide +kernel
theorem dX9_canAll_44 : decode cX9_canAll 44 = .ok (.iaload, 1) := by decide +kernel
theorem dX9_canAll_45 : decode cX9_canAll 45 = .ok (.iadd, 1) := by decide +kernel
theorem dX9_canAll_46 : decode cX9_canAll 46 = .ok (.baload, 1) := by decide +kernel
theorem dX9_canAll_47 : decode cX9_canAll 47 = .ok (.ifCond .eq 25, 3) := by decide +kernel
theorem dX9_canAll_50 : decode cX9_canAll 50 = .ok (.aload_n 0, 1) := by decide +kernel
theorem dX9_canAll_51 : decode cX9_canAll 51 = .ok (.getfield 84, 3) := by decide +kernel
theorem dX9_canAll_54 : decode cX9_canAll 54 = .ok (.sipush 384, 3) := by decide +kernel
theorem dX9_canAll_57 : decode cX9_canAll 57 = .ok (.aload_n 0, 1) := by decide +kernel
theorem dX9_canAll_58 : decode cX9_canAll 58 = .ok (.getfield 93, 3) := by decide +kernel
theorem dX9_canAll_61 : decode cX9_canAll 61 = .ok (.iconst 3, 1) := by decide +kernel
theorem dX9_canAll_62 : decode cX9_canAll 62 = .ok (.iaload, 1) := by decide +kernel
theorem dX9_canAll_63 : decode cX9_canAll 63 = .ok (.iadd, 1) := by decide +kernel
theorem dX9_canAll_64 : decode cX9_canAll 64 = .ok (.baload, 1) := by decide +kernel
theorem dX9_canAll_65 : decode cX9_canAll 65 = .ok (.ifCond .eq 7, 3) := by decide +kernel
theorem dX9_canAll_68 : decode cX9_canAll 68 = .ok (.iconst 1, 1) := by decide +kernel
theorem dX9_canAll_69 : decode cX9_canAll 69 = .ok (.goto 4, 3) := by decide +kernel
theorem dX9_canAll_72 : decode cX9_canAll 72 = .ok (.iconst 0, 1) := by decide +kernel
theorem dX9_canAll_73 : decode cX9_canAll 73 = .ok (.ireturn, 1) := by decide +kernel
theorem dX9_tries_0 : decode cX9_tries 0 = .ok (.iload_n 1, 1) := by decide +kernel
theorem dX9_tries_1 : decode cX9_tries 1 = .ok (.aload_n 0, 1) := by decide +kernel
theorem dX9_tries_2 : decode cX9_tries 2 = .ok (.getfield 111, 3) := by decide +kernel
theorem dX9_tries_5 : decode cX9_tries 5 = .ok (.if_icmp .ne 78, 3) := by decide +kernel
theorem dX9_tries_8 : decode cX9_tries 8 = .ok (.iload_n 2, 1) := by decide +kernel
theorem dX9_tries_9 : decode cX9_tries 9 = .ok (.aload_n 0, 1) := by decide +kernel
theorem dX9_tries_10 : decode cX9_tries 10 = .ok (.getfield 217, 3) := by decide +kernel
theorem dX9_tries_13 : decode cX9_tries 13 = .ok (.if_icmp .lt 26, 3) := by decide +kernel
theorem dX9_tries_16 : decode cX9_tries 16 = .ok (.iload_n 2, 1) := by decide +kernel
theorem dX9_tries_17 : decode cX9_tries 17 = .ok (.aload_n 0, 1) := by decide +kernel
theorem dX9_tries_18 : decode cX9_tries 18 = .ok (.getfield 217, 3) := by decide +kernel
theorem dX9_tries_21 : decode cX9_tries 21 = .ok (.if_icmp .ne 11, 3) := by decide +kernel
theorem dX9_tries_24 : decode cX9_tries 24 = .ok (.iload_n 3, 1) := by decide +kernel
theorem dX9_tries_25 : decode cX9_tries 25 = .ok (.aload_n 0, 1) := by decide +kernel
theorem dX9_tries_26 : decode cX9_tries 26 = .ok (.getfield 220, 3) := by decide +kernel
theorem dX9_tries_29 : decode cX9_tries 29 = .ok (.if_icmp .ge 10, 3) := by decide +kernel
theorem dX9_tries_32 : decode cX9_tries 32 = .ok (.aload_n 0, 1) := by decide +kernel
theorem dX9_tries_33 : decode cX9_tries 33 = .ok (.invokevirtual 223, 3) := by decide +kernel
theorem dX9_tries_36 : decode cX9_tries 36 = .ok (.ifCond .ne 4, 3) := by decide +kernel
theorem dX9_tries_39 : decode cX9_tries 39 = .ok (.return_, 1) := by decide +kernel
theorem dX9_tries_40 : decode cX9_tries 40 = .ok (.aload_n 0, 1) := by decide +kernel
theorem dX9_tries_41 : decode cX9_tries 41 = .ok (.iload_n 2, 1) := by decide +kernel
theorem dX9_tries_42 : decode cX9_tries 42 = .ok (.putfield 217, 3) := by decide +kernel
theorem dX9_tries_45 : decode cX9_tries 45 = .ok (.aload_n 0, 1) := by decide +kernel
theorem dX9_tries_46 : decode cX9_tries 46 = .ok (.iload_n 3, 1) := by decide +kernel
theorem dX9_tries_47 : decode cX9_tries 47 = .ok (.putfield 220, 3) := by decide +kernel
theorem dX9_tries_50 : decode cX9_tries 50 = .ok (.iconst 0, 1) := by decide +kernel
theorem dX9_tries_51 : decode cX9_tries 51 = .ok (.istore 4, 2) := by decide +kernel
theorem dX9_tries_53 : decode cX9_tries 53 = .ok (.iload 4, 2) := by decide +kernel
theorem dX9_tries_55 : decode cX9_tries 55 = .ok (.aload_n 0, 1) := by decide +kernel
theorem dX9_tries_56 : decode cX9_tries 56 = .ok (.getfield 111, 3) := by decide +kernel
theorem dX9_tries_59 : decode cX9_tries 59 = .ok (.if_icmp .ge 23, 3) := by decide +kernel
theorem dX9_tries_62 : decode cX9_tries 62 = .ok (.aload_n 0, 1) := by decide +kernel
theorem dX9_tries_63 : decode cX9_tries 63 = .ok (.getfield 90, 3) := by decide +kernel
theorem dX9_tries_66 : decode cX9_tries 66 = .ok (.iload 4, 2) := by decide +kernel
theorem dX9_tries_68 : decode cX9_tries 68 = .ok (.aload_n 0, 1) := by decide +kernel
theorem dX9_tries_69 : decode cX9_tries 69 = .ok (.getfield 87, 3) := by decide +kernel
theorem dX9_tries_72 : decode cX9_tries 72 = .ok (.iload 4, 2) := by decide +kernel
theorem dX9_tries_74 : decode cX9_tries 74 = .ok (.iaload, 1) := by decide +kernel
theorem dX9_tries_75 : decode cX9_tries 75 = .ok (.iastore, 1) := by decide +kernel
theorem dX9_tries_76 : decode cX9_tries 76 = .ok (.iinc 4 1, 3) := by decide +kernel
theorem dX9_tries_79 : decode cX9_tries 79 = .ok (.goto (-26), 3) := by decide +kernel
theorem dX9_tries_82 : decode cX9_tries 82 = .ok (.return_, 1) := by decide +kernel
theorem dX9_tries_83 : decode cX9_tries 83 = .ok (.iconst 0, 1) := by decide +kernel
theorem dX9_tries_84 : decode cX9_tries 84 = .ok (.istore 4, 2) := by decide +kernel
theorem dX9_tries_86 : decode cX9_tries 86 = .ok (.iload 4, 2) := by decide +kernel
theorem dX9_tries_88 : decode cX9_tries 88 = .ok (.iconst 4, 1) := by decide +kernel
theorem dX9_tries_89 : decode cX9_tries 89 = .ok (.if_icmp .ge 77, 3) := by decide +kernel
theorem dX9_tries_92 : decode cX9_tries 92 = .ok (.aload_n 0, 1) := by decide +kernel
theorem dX9_tries_93 : decode cX9_tries 93 = .ok (.iload_n 1, 1) := by decide +kernel
theorem dX9_tries_94 : decode cX9_tries 94 = .ok (.invokevirtual 117, 3) := by decide +kernel
theorem dX9_tries_97 : decode cX9_tries 97 = .ok (.ifCond .eq 69, 3) := by decide +kernel
theorem dX9_tries_100 : decode cX9_tries 100 = .ok (.aload_n 0, 1) := by decide +kernel
theorem dX9_tries_101 : decode cX9_tries 101 = .ok (.getfield 93, 3) := by decide +kernel
theorem dX9_tries_104 : decode cX9_tries 104 = .ok (.iload 4, 2) := by decide +kernel
theorem dX9_tries_106 : decode cX9_tries 106 = .ok (.dup2, 1) := by decide +kernel
theorem dX9_tries_107 : decode cX9_tries 107 = .ok (.iaload, 1) := by decide +kernel
theorem dX9_tries_108 : decode cX9_tries 108 = .ok (.iconst 1, 1) := by decide +kernel
theorem dX9_tries_109 : decode cX9_tries 109 = .ok (.iload_n 1, 1) := by decide +kernel
theorem dX9_tries_110 : decode cX9_tries 110 = .ok (.ishl, 1) := by decide +kernel
theorem dX9_tries_111 : decode cX9_tries 111 = .ok (.ior, 1) := by decide +kernel
theorem dX9_tries_112 : decode cX9_tries 112 = .ok (.iastore, 1) := by decide +kernel
theorem dX9_tries_113 : decode cX9_tries 113 = .ok (.aload_n 0, 1) := by decide +kernel
theorem dX9_tries_114 : decode cX9_tries 114 = .ok (.getfield 87, 3) := by decide +kernel
theorem dX9_tries_117 : decode cX9_tries 117 = .ok (.iload_n 1, 1) := by decide +kernel
theorem dX9_tries_118 : decode cX9_tries 118 = .ok (.iload 4, 2) := by decide +kernel
theorem dX9_tries_120 : decode cX9_tries 120 = .ok (.iastore, 1) := by decide +kernel
theorem dX9_tries_121 : decode cX9_tries 121 = .ok (.aload_n 0, 1) := by decide +kernel
theorem dX9_tries_122 : decode cX9_tries 122 = .ok (.iload_n 1, 1) := by decide +kernel
theorem dX9_tries_123 : decode cX9_tries 123 = .ok (.iconst 1, 1) := by decide +kernel
theorem dX9_tries_124 : decode cX9_tries 124 = .ok (.iadd, 1) := by decide +kernel
theorem dX9_tries_125 : decode cX9_tries 125 = .ok (.iload_n 2, 1) := by decide +kernel
theorem dX9_tries_126 : decode cX9_tries 126 = .ok (.aload_n 0, 1) := by decide +kernel
theorem dX9_tries_127 : decode cX9_tries 127 = .ok (.getfield 37, 3) := by decide +kernel
theorem dX9_tries_130 : decode cX9_tries 130 = .ok (.iload_n 1, 1) := by decide +kernel
theorem dX9_tries_131 : decode cX9_tries 131 = .ok (.iaload, 1) := by decide +kernel
theorem dX9_tries_132 : decode cX9_tries 132 = .ok (.iadd, 1) := by decide +kernel
theorem dX9_tries_133 : decode cX9_tries 133 = .ok (.iload_n 3, 1) := by decide +kernel
theorem dX9_tries_134 : decode cX9_tries 134 = .ok (.aload_n 0, 1) := by decide +kernel
theorem dX9_tries_135 : decode cX9_tries 135 = .ok (.iload 4, 2) := by decide +kernel
theorem dX9_tries_137 : decode cX9_tries 137 = .ok (.iload_n 1, 1) := by decide +kernel
theorem dX9_tries_138 : decode cX9_tries 138 = .ok (.invokevirtual 213, 3) := by decide +kernel
theorem dX9_tries_141 : decode cX9_tries 141 = .ok (.iadd, 1) := by decide +kernel
theorem dX9_tries_142 : decode cX9_tries 142 = .ok (.invokevirtual 226, 3) := by decide +kernel
theorem dX9_tries_145 : decode cX9_tries 145 = .ok (.aload_n 0, 1) := by decide +kernel
theorem dX9_tries_146 : decode cX9_tries 146 = .ok (.getfield 93, 3) := by decide +kernel
theorem dX9_tries_149 : decode cX9_tries 149 = .ok (.iload 4, 2) := by decide +kernel
theorem dX9_tries_151 : decode cX9_tries 151 = .ok (.dup2, 1) := by decide +kernel
theorem dX9_tries_152 : decode cX9_tries 152 = .ok (.iaload, 1) := by decide +kernel
theorem dX9_tries_153 : decode cX9_tries 153 = .ok (.iconst 1, 1) := by decide +kernel
theorem dX9_tries_154 : decode cX9_tries 154 = .ok (.iload_n 1, 1) := by decide +kernel
theorem dX9_tries_155 : decode cX9_tries 155 = .ok (.ishl, 1) := by decide +kernel
theorem dX9_tries_156 : decode cX9_tries 156 = .ok (.iconst (-1), 1) := by decide +kernel
theorem dX9_tries_157 : decode cX9_tries 157 = .ok (.ixor, 1) := by decide +kernel
theorem dX9_tries_158 : decode cX9_tries 158 = .ok (.iand, 1) := by decide +kernel
theorem dX9_tries_159 : decode cX9_tries 159 = .ok (.iastore, 1) := by decide +kernel
theorem dX9_tries_160 : decode cX9_tries 160 = .ok (.iinc 4 1, 3) := by decide +kernel
theorem dX9_tries_163 : decode cX9_tries 163 = .ok (.goto (-77), 3) := by decide +kernel
theorem dX9_tries_166 : decode cX9_tries 166 = .ok (.aload_n 0, 1) := by decide +kernel
theorem dX9_tries_167 : decode cX9_tries 167 = .ok (.getfield 87, 3) := by decide +kernel
theorem dX9_tries_170 : decode cX9_tries 170 = .ok (.iload_n 1, 1) := by decide +kernel
theorem dX9_tries_171 : decode cX9_tries 171 = .ok (.iconst (-1), 1) := by decide +kernel
theorem dX9_tries_172 : decode cX9_tries 172 = .ok (.iastore, 1) := by decide +kernel
theorem dX9_tries_173 : decode cX9_tries 173 = .ok (.aload_n 0, 1) := by decide +kernel
theorem dX9_tries_174 : decode cX9_tries 174 = .ok (.iload_n 1, 1) := by decide +kernel
theorem dX9_tries_175 : decode cX9_tries 175 = .ok (.iconst 1, 1) := by decide +kernel
theorem dX9_tries_176 : decode cX9_tries 176 = .ok (.iadd, 1) := by decide +kernel
theorem dX9_tries_177 : decode cX9_tries 177 = .ok (.iload_n 2, 1) := by decide +kernel
theorem dX9_tries_178 : decode cX9_tries 178 = .ok (.iload_n 3, 1) := by decide +kernel
theorem dX9_tries_179 : decode cX9_tries 179 = .ok (.invokevirtual 226, 3) := by decide +kernel
theorem dX9_tries_182 : decode cX9_tries 182 = .ok (.return_, 1) := by decide +kernel
theorem dX9_finds_0 : decode cX9_finds 0 = .ok (.iconst 0, 1) := by decide +kernel
theorem dX9_finds_1 : decode cX9_finds 1 = .ok (.istore_n 1, 1) := by decide +kernel
theorem dX9_finds_2 : decode cX9_finds 2 = .ok (.iload_n 1, 1) := by decide +kernel
theorem dX9_finds_3 : decode cX9_finds 3 = .ok (.iconst 4, 1) := by decide +kernel
theorem dX9_finds_4 : decode cX9_finds 4 = .ok (.if_icmp .ge 52, 3) := by decide +kernel
theorem dX9_finds_7 : decode cX9_finds 7 = .ok (.aload_n 0, 1) := by decide +kernel
theorem dX9_finds_8 : decode cX9_finds 8 = .ok (.getfield 93, 3) := by decide +kernel
theorem dX9_finds_11 : decode cX9_finds 11 = .ok (.iload_n 1, 1) := by decide +kernel
theorem dX9_finds_12 : decode cX9_finds 12 = .ok (.iconst 0, 1) := by decide +kernel
theorem dX9_finds_13 : decode cX9_finds 13 = .ok (.iastore, 1) := by decide +kernel
theorem dX9_finds_14 : decode cX9_finds 14 = .ok (.iconst 0, 1) := by decide +kernel
theorem dX9_finds_15 : decode cX9_finds 15 = .ok (.istore_n 2, 1) := by decide +kernel
theorem dX9_finds_16 : decode cX9_finds 16 = .ok (.iload_n 2, 1) := by decide +kernel
theorem dX9_finds_17 : decode cX9_finds 17 = .ok (.iconst 1, 1) := by decide +kernel
theorem dX9_finds_18 : decode cX9_finds 18 = .ok (.aload_n 0, 1) := by decide +kernel
theorem dX9_finds_19 : decode cX9_finds 19 = .ok (.getfield 111, 3) := by decide +kernel
theorem dX9_finds_22 : decode cX9_finds 22 = .ok (.ishl, 1) := by decide +kernel
theorem dX9_finds_23 : decode cX9_finds 23 = .ok (.if_icmp .ge 27, 3) := by decide +kernel
theorem dX9_finds_26 : decode cX9_finds 26 = .ok (.aload_n 0, 1) := by decide +kernel
theorem dX9_finds_27 : decode cX9_finds 27 = .ok (.getfield 84, 3) := by decide +kernel
theorem dX9_finds_30 : decode cX9_finds 30 = .ok (.sipush 128, 3) := by decide +kernel
theorem dX9_finds_33 : decode cX9_finds 33 = .ok (.iload_n 1, 1) := by decide +kernel
theorem dX9_finds_34 : decode cX9_finds 34 = .ok (.imul, 1) := by decide +kernel
theorem dX9_finds_35 : decode cX9_finds 35 = .ok (.iload_n 2, 1) := by decide +kernel
theorem dX9_finds_36 : decode cX9_finds 36 = .ok (.iadd, 1) := by decide +kernel
theorem dX9_finds_37 : decode cX9_finds 37 = .ok (.aload_n 0, 1) := by decide +kernel
theorem dX9_finds_38 : decode cX9_finds 38 = .ok (.iload_n 1, 1) := by decide +kernel
theorem dX9_finds_39 : decode cX9_finds 39 = .ok (.iload_n 2, 1) := by decide +kernel
theorem dX9_finds_40 : decode cX9_finds 40 = .ok (.invokevirtual 230, 3) := by decide +kernel
theorem dX9_finds_43 : decode cX9_finds 43 = .ok (.bastore, 1) := by decide +kernel
theorem dX9_finds_44 : decode cX9_finds 44 = .ok (.iinc 2 1, 3) := by decide +kernel
theorem dX9_finds_47 : decode cX9_finds 47 = .ok (.goto (-31), 3) := by decide +kernel
theorem dX9_finds_50 : decode cX9_finds 50 = .ok (.iinc 1 1, 3) := by decide +kernel
theorem dX9_finds_53 : decode cX9_finds 53 = .ok (.goto (-51), 3) := by decide +kernel
theorem dX9_finds_56 : decode cX9_finds 56 = .ok (.aload_n 0, 1) := by decide +kernel
theorem dX9_finds_57 : decode cX9_finds 57 = .ok (.iconst (-1), 1) := by decide +kernel
theorem dX9_finds_58 : decode cX9_finds 58 = .ok (.putfield 217, 3) := by decide +kernel
theorem dX9_finds_61 : decode cX9_finds 61 = .ok (.aload_n 0, 1) := by decide +kernel
theorem dX9_finds_62 : decode cX9_finds 62 = .ok (.iconst 0, 1) := by decide +kernel
theorem dX9_finds_63 : decode cX9_finds 63 = .ok (.iconst 0, 1) := by decide +kernel
theorem dX9_finds_64 : decode cX9_finds 64 = .ok (.iconst 0, 1) := by decide +kernel
theorem dX9_finds_65 : decode cX9_finds 65 = .ok (.invokevirtual 226, 3) := by decide +kernel
theorem dX9_finds_68 : decode cX9_finds 68 = .ok (.return_, 1) := by decide +kernel
theorem dX9_look_0 : decode cX9_look 0 = .ok (.iconst 0, 1) := by decide +kernel
theorem dX9_look_1 : decode cX9_look 1 = .ok (.istore_n 2, 1) := by decide +kernel
theorem dX9_look_2 : decode cX9_look 2 = .ok (.iload_n 1, 1) := by decide +kernel
theorem dX9_look_3 : decode cX9_look 3 = .ok (.tableswitch 106 0 5 #[37, 42, 47, 47, 47, 101], 37) := by decide +kernel
theorem dX9_look_40 : decode cX9_look 40 = .ok (.aload_n 0, 1) := by decide +kernel
theorem dX9_look_41 : decode cX9_look 41 = .ok (.getfield 104, 3) := by decide +kernel
theorem dX9_look_44 : decode cX9_look 44 = .ok (.ireturn, 1) := by decide +kernel
theorem dX9_look_45 : decode cX9_look 45 = .ok (.aload_n 0, 1) := by decide +kernel
theorem dX9_look_46 : decode cX9_look 46 = .ok (.getfield 111, 3) := by decide +kernel
theorem dX9_look_49 : decode cX9_look 49 = .ok (.ireturn, 1) := by decide +kernel
theorem dX9_look_50 : decode cX9_look 50 = .ok (.iconst 0, 1) := by decide +kernel
theorem dX9_look_51 : decode cX9_look 51 = .ok (.istore_n 3, 1) := by decide +kernel
theorem dX9_look_52 : decode cX9_look 52 = .ok (.iload_n 3, 1) := by decide +kernel
theorem dX9_look_53 : decode cX9_look 53 = .ok (.aload_n 0, 1) := by decide +kernel
theorem dX9_look_54 : decode cX9_look 54 = .ok (.getfield 111, 3) := by decide +kernel
theorem dX9_look_57 : decode cX9_look 57 = .ok (.if_icmp .ge 45, 3) := by decide +kernel
theorem dX9_look_60 : decode cX9_look 60 = .ok (.iload_n 2, 1) := by decide +kernel
theorem dX9_look_61 : decode cX9_look 61 = .ok (.aload_n 0, 1) := by decide +kernel
theorem dX9_look_62 : decode cX9_look 62 = .ok (.getfield 49, 3) := by decide +kernel
theorem dX9_look_65 : decode cX9_look 65 = .ok (.iload_n 3, 1) := by decide +kernel
theorem dX9_look_66 : decode cX9_look 66 = .ok (.iaload, 1) := by decide +kernel
theorem dX9_look_67 : decode cX9_look 67 = .ok (.iload_n 1, 1) := by decide +kernel
theorem dX9_look_68 : decode cX9_look 68 = .ok (.iconst 2, 1) := by decide +kernel
theorem dX9_look_69 : decode cX9_look 69 = .ok (.if_icmp .ne 7, 3) := by decide +kernel
theorem dX9_look_72 : decode cX9_look 72 = .ok (.iconst 0, 1) := by decide +kernel
theorem dX9_look_73 : decode cX9_look 73 = .ok (.goto 13, 3) := by decide +kernel
theorem dX9_look_76 : decode cX9_look 76 = .ok (.iload_n 1, 1) := by decide +kernel
theorem dX9_look_77 : decode cX9_look 77 = .ok (.iconst 3, 1) := by decide +kernel
theorem dX9_look_78 : decode cX9_look 78 = .ok (.if_icmp .ne 7, 3) := by decide +kernel
theorem dX9_look_81 : decode cX9_look 81 = .ok (.iconst 1, 1) := by decide +kernel
theorem dX9_look_82 : decode cX9_look 82 = .ok (.goto 4, 3) := by decide +kernel
theorem dX9_look_85 : decode cX9_look 85 = .ok (.iconst 3, 1) := by decide +kernel
theorem dX9_look_86 : decode cX9_look 86 = .ok (.if_icmp .ne 7, 3) := by decide +kernel
theorem dX9_look_89 : decode cX9_look 89 = .ok (.iconst 1, 1) := by decide +kernel
theorem dX9_look_90 : decode cX9_look 90 = .ok (.goto 4, 3) := by decide +kernel
theorem dX9_look_93 : decode cX9_look 93 = .ok (.iconst 0, 1) := by decide +kernel
theorem dX9_look_94 : decode cX9_look 94 = .ok (.iadd, 1) := by decide +kernel
theorem dX9_look_95 : decode cX9_look 95 = .ok (.istore_n 2, 1) := by decide +kernel
theorem dX9_look_96 : decode cX9_look 96 = .ok (.iinc 3 1, 3) := by decide +kernel
theorem dX9_look_99 : decode cX9_look 99 = .ok (.goto (-47), 3) := by decide +kernel
theorem dX9_look_102 : decode cX9_look 102 = .ok (.iload_n 2, 1) := by decide +kernel
theorem dX9_look_103 : decode cX9_look 103 = .ok (.ireturn, 1) := by decide +kernel
theorem dX9_look_104 : decode cX9_look 104 = .ok (.aload_n 0, 1) := by decide +kernel
theorem dX9_look_105 : decode cX9_look 105 = .ok (.getfield 233, 3) := by decide +kernel
theorem dX9_look_108 : decode cX9_look 108 = .ok (.ireturn, 1) := by decide +kernel
theorem dX9_look_109 : decode cX9_look 109 = .ok (.iload_n 1, 1) := by decide +kernel
theorem dX9_look_110 : decode cX9_look 110 = .ok (.bipush 10, 2) := by decide +kernel
theorem dX9_look_112 : decode cX9_look 112 = .ok (.bipush 13, 2) := by decide +kernel
theorem dX9_look_114 : decode cX9_look 114 = .ok (.invokestatic 96, 3) := by decide +kernel
theorem dX9_look_117 : decode cX9_look 117 = .ok (.ifCond .eq 15, 3) := by decide +kernel
theorem dX9_look_120 : decode cX9_look 120 = .ok (.aload_n 0, 1) := by decide +kernel
theorem dX9_look_121 : decode cX9_look 121 = .ok (.getfield 13, 3) := by decide +kernel
theorem dX9_look_124 : decode cX9_look 124 = .ok (.iload_n 1, 1) := by decide +kernel
theorem dX9_look_125 : decode cX9_look 125 = .ok (.bipush 10, 2) := by decide +kernel
theorem dX9_look_127 : decode cX9_look 127 = .ok (.isub, 1) := by decide +kernel
theorem dX9_look_128 : decode cX9_look 128 = .ok (.iaload, 1) := by decide +kernel
theorem dX9_look_129 : decode cX9_look 129 = .ok (.goto 27, 3) := by decide +kernel
theorem dX9_look_132 : decode cX9_look 132 = .ok (.iload_n 1, 1) := by decide +kernel
theorem dX9_look_133 : decode cX9_look 133 = .ok (.bipush 20, 2) := by decide +kernel
theorem dX9_look_135 : decode cX9_look 135 = .ok (.bipush 23, 2) := by decide +kernel
theorem dX9_look_137 : decode cX9_look 137 = .ok (.invokestatic 96, 3) := by decide +kernel
theorem dX9_look_140 : decode cX9_look 140 = .ok (.ifCond .eq 15, 3) := by decide +kernel
theorem dX9_look_143 : decode cX9_look 143 = .ok (.aload_n 0, 1) := by decide +kernel
theorem dX9_look_144 : decode cX9_look 144 = .ok (.getfield 16, 3) := by decide +kernel
theorem dX9_look_147 : decode cX9_look 147 = .ok (.iload_n 1, 1) := by decide +kernel
theorem dX9_look_148 : decode cX9_look 148 = .ok (.bipush 20, 2) := by decide +kernel
theorem dX9_look_150 : decode cX9_look 150 = .ok (.isub, 1) := by decide +kernel
theorem dX9_look_151 : decode cX9_look 151 = .ok (.iaload, 1) := by decide +kernel
theorem dX9_look_152 : decode cX9_look 152 = .ok (.goto 4, 3) := by decide +kernel
theorem dX9_look_155 : decode cX9_look 155 = .ok (.iconst (-1), 1) := by decide +kernel
theorem dX9_look_156 : decode cX9_look 156 = .ok (.ireturn, 1) := by decide +kernel
theorem dX9_of_0 : decode cX9_of 0 = .ok (.iload_n 1, 1) := by decide +kernel
theorem dX9_of_1 : decode cX9_of 1 = .ok (.iconst 0, 1) := by decide +kernel
theorem dX9_of_2 : decode cX9_of 2 = .ok (.aload_n 0, 1) := by decide +kernel
theorem dX9_of_3 : decode cX9_of 3 = .ok (.getfield 111, 3) := by decide +kernel
theorem dX9_of_6 : decode cX9_of 6 = .ok (.iconst 1, 1) := by decide +kernel
theorem dX9_of_7 : decode cX9_of 7 = .ok (.isub, 1) := by decide +kernel
theorem dX9_of_8 : decode cX9_of 8 = .ok (.invokestatic 96, 3) := by decide +kernel
theorem dX9_of_11 : decode cX9_of 11 = .ok (.ifCond .ne 5, 3) := by decide +kernel
theorem dX9_of_14 : decode cX9_of 14 = .ok (.iconst (-1), 1) := by decide +kernel
theorem dX9_of_15 : decode cX9_of 15 = .ok (.ireturn, 1) := by decide +kernel
theorem dX9_of_16 : decode cX9_of 16 = .ok (.iload_n 2, 1) := by decide +kernel
theorem dX9_of_17 : decode cX9_of 17 = .ok (.tableswitch 125 0 9 #[55, 62, 69, 76, 83, 90, 97, 104, 111, 118], 55) := by decide +kernel
theorem dX9_of_72 : decode cX9_of 72 = .ok (.aload_n 0, 1) := by decide +kernel
theorem dX9_of_73 : decode cX9_of 73 = .ok (.getfield 28, 3) := by decide +kernel
theorem dX9_of_76 : decode cX9_of 76 = .ok (.iload_n 1, 1) := by decide +kernel
theorem dX9_of_77 : decode cX9_of 77 = .ok (.iaload, 1) := by decide +kernel
theorem dX9_of_78 : decode cX9_of 78 = .ok (.ireturn, 1) := by decide +kernel
theorem dX9_of_79 : decode cX9_of 79 = .ok (.aload_n 0, 1) := by decide +kernel
theorem dX9_of_80 : decode cX9_of 80 = .ok (.getfield 31, 3) := by decide +kernel
theorem dX9_of_83 : decode cX9_of 83 = .ok (.iload_n 1, 1) := by decide +kernel
theorem dX9_of_84 : decode cX9_of 84 = .ok (.iaload, 1) := by decide +kernel
theorem dX9_of_85 : decode cX9_of 85 = .ok (.ireturn, 1) := by decide +kernel
theorem dX9_of_86 : decode cX9_of 86 = .ok (.aload_n 0, 1) := by decide +kernel
theorem dX9_of_87 : decode cX9_of 87 = .ok (.getfield 34, 3) := by decide +kernel
theorem dX9_of_90 : decode cX9_of 90 = .ok (.iload_n 1, 1) := by decide +kernel
theorem dX9_of_91 : decode cX9_of 91 = .ok (.iaload, 1) := by decide +kernel
theorem dX9_of_92 : decode cX9_of 92 = .ok (.ireturn, 1) := by decide +kernel
theorem dX9_of_93 : decode cX9_of 93 = .ok (.aload_n 0, 1) := by decide +kernel
theorem dX9_of_94 : decode cX9_of 94 = .ok (.getfield 37, 3) := by decide +kernel
theorem dX9_of_97 : decode cX9_of 97 = .ok (.iload_n 1, 1) := by decide +kernel
theorem dX9_of_98 : decode cX9_of 98 = .ok (.iaload, 1) := by decide +kernel
theorem dX9_of_99 : decode cX9_of 99 = .ok (.ireturn, 1) := by decide +kernel
theorem dX9_of_100 : decode cX9_of 100 = .ok (.aload_n 0, 1) := by decide +kernel
theorem dX9_of_101 : decode cX9_of 101 = .ok (.getfield 40, 3) := by decide +kernel
theorem dX9_of_104 : decode cX9_of 104 = .ok (.iload_n 1, 1) := by decide +kernel
theorem dX9_of_105 : decode cX9_of 105 = .ok (.iaload, 1) := by decide +kernel
theorem dX9_of_106 : decode cX9_of 106 = .ok (.ireturn, 1) := by decide +kernel
theorem dX9_of_107 : decode cX9_of 107 = .ok (.aload_n 0, 1) := by decide +kernel
theorem dX9_of_108 : decode cX9_of 108 = .ok (.getfield 43, 3) := by decide +kernel
theorem dX9_of_111 : decode cX9_of 111 = .ok (.iload_n 1, 1) := by decide +kernel
theorem dX9_of_112 : decode cX9_of 112 = .ok (.iaload, 1) := by decide +kernel
theorem dX9_of_113 : decode cX9_of 113 = .ok (.ireturn, 1) := by decide +kernel
theorem dX9_of_114 : decode cX9_of 114 = .ok (.aload_n 0, 1) := by decide +kernel
theorem dX9_of_115 : decode cX9_of 115 = .ok (.getfield 46, 3) := by decide +kernel
theorem dX9_of_118 : decode cX9_of 118 = .ok (.iload_n 1, 1) := by decide +kernel
theorem dX9_of_119 : decode cX9_of 119 = .ok (.iaload, 1) := by decide +kernel
theorem dX9_of_120 : decode cX9_of 120 = .ok (.ireturn, 1) := by decide +kernel
theorem dX9_of_121 : decode cX9_of 121 = .ok (.aload_n 0, 1) := by decide +kernel
theorem dX9_of_122 : decode cX9_of 122 = .ok (.getfield 49, 3) := by decide +kernel
theorem dX9_of_125 : decode cX9_of 125 = .ok (.iload_n 1, 1) := by decide +kernel
theorem dX9_of_126 : decode cX9_of 126 = .ok (.iaload, 1) := by decide +kernel
theorem dX9_of_127 : decode cX9_of 127 = .ok (.ireturn, 1) := by decide +kernel
theorem dX9_of_128 : decode cX9_of 128 = .ok (.aload_n 0, 1) := by decide +kernel
theorem dX9_of_129 : decode cX9_of 129 = .ok (.getfield 52, 3) := by decide +kernel
theorem dX9_of_132 : decode cX9_of 132 = .ok (.iload_n 1, 1) := by decide +kernel
theorem dX9_of_133 : decode cX9_of 133 = .ok (.iaload, 1) := by decide +kernel
theorem dX9_of_134 : decode cX9_of 134 = .ok (.ireturn, 1) := by decide +kernel
theorem dX9_of_135 : decode cX9_of 135 = .ok (.aload_n 0, 1) := by decide +kernel
theorem dX9_of_136 : decode cX9_of 136 = .ok (.getfield 55, 3) := by decide +kernel
theorem dX9_of_139 : decode cX9_of 139 = .ok (.iload_n 1, 1) := by decide +kernel
theorem dX9_of_140 : decode cX9_of 140 = .ok (.iaload, 1) := by decide +kernel
theorem dX9_of_141 : decode cX9_of 141 = .ok (.ireturn, 1) := by decide +kernel
theorem dX9_of_142 : decode cX9_of 142 = .ok (.iconst (-1), 1) := by decide +kernel
theorem dX9_of_143 : decode cX9_of 143 = .ok (.ireturn, 1) := by decide +kernel
theorem dX9_setOf_0 : decode cX9_setOf 0 = .ok (.iconst 0, 1) := by decide +kernel
theorem dX9_setOf_1 : decode cX9_setOf 1 = .ok (.istore_n 2, 1) := by decide +kernel
theorem dX9_setOf_2 : decode cX9_setOf 2 = .ok (.iconst 0, 1) := by decide +kernel
theorem dX9_setOf_3 : decode cX9_setOf 3 = .ok (.istore_n 3, 1) := by decide +kernel
theorem dX9_setOf_4 : decode cX9_setOf 4 = .ok (.iload_n 3, 1) := by decide +kernel
theorem dX9_setOf_5 : decode cX9_setOf 5 = .ok (.aload_n 0, 1) := by decide +kernel
theorem dX9_setOf_6 : decode cX9_setOf 6 = .ok (.getfield 111, 3) := by decide +kernel
theorem dX9_setOf_9 : decode cX9_setOf 9 = .ok (.if_icmp .ge 29, 3) := by decide +kernel
theorem dX9_setOf_12 : decode cX9_setOf 12 = .ok (.iload_n 2, 1) := by decide +kernel
theorem dX9_setOf_13 : decode cX9_setOf 13 = .ok (.aload_n 0, 1) := by decide +kernel
theorem dX9_setOf_14 : decode cX9_setOf 14 = .ok (.getfield 90, 3) := by decide +kernel
theorem dX9_setOf_17 : decode cX9_setOf 17 = .ok (.iload_n 3, 1) := by decide +kernel
theorem dX9_setOf_18 : decode cX9_setOf 18 = .ok (.iaload, 1) := by decide +kernel
theorem dX9_setOf_19 : decode cX9_setOf 19 = .ok (.iload_n 1, 1) := by decide +kernel
theorem dX9_setOf_20 : decode cX9_setOf 20 = .ok (.if_icmp .ne 9, 3) := by decide +kernel
theorem dX9_setOf_23 : decode cX9_setOf 23 = .ok (.iconst 1, 1) := by decide +kernel
theorem dX9_setOf_24 : decode cX9_setOf 24 = .ok (.iload_n 3, 1) := by decide +kernel
theorem dX9_setOf_25 : decode cX9_setOf 25 = .ok (.ishl, 1) := by decide +kernel
theorem dX9_setOf_26 : decode cX9_setOf 26 = .ok (.goto 4, 3) := by decide +kernel
theorem dX9_setOf_29 : decode cX9_setOf 29 = .ok (.iconst 0, 1) := by decide +kernel
theorem dX9_setOf_30 : decode cX9_setOf 30 = .ok (.ior, 1) := by decide +kernel
theorem dX9_setOf_31 : decode cX9_setOf 31 = .ok (.istore_n 2, 1) := by decide +kernel
theorem dX9_setOf_32 : decode cX9_setOf 32 = .ok (.iinc 3 1, 3) := by decide +kernel
theorem dX9_setOf_35 : decode cX9_setOf 35 = .ok (.goto (-31), 3) := by decide +kernel
theorem dX9_setOf_38 : decode cX9_setOf 38 = .ok (.iload_n 2, 1) := by decide +kernel
theorem dX9_setOf_39 : decode cX9_setOf 39 = .ok (.ireturn, 1) := by decide +kernel
theorem dX9_best_0 : decode cX9_best 0 = .ok (.aload_n 0, 1) := by decide +kernel
theorem dX9_best_1 : decode cX9_best 1 = .ok (.invokevirtual 236, 3) := by decide +kernel
theorem dX9_best_4 : decode cX9_best 4 = .ok (.iload_n 1, 1) := by decide +kernel
theorem dX9_best_5 : decode cX9_best 5 = .ok (.ifCond .ne 8, 3) := by decide +kernel
theorem dX9_best_8 : decode cX9_best 8 = .ok (.aload_n 0, 1) := by decide +kernel
theorem dX9_best_9 : decode cX9_best 9 = .ok (.getfield 217, 3) := by decide +kernel
theorem dX9_best_12 : decode cX9_best 12 = .ok (.ireturn, 1) := by decide +kernel
theorem dX9_best_13 : decode cX9_best 13 = .ok (.iload_n 1, 1) := by decide +kernel
theorem dX9_best_14 : decode cX9_best 14 = .ok (.iconst 1, 1) := by decide +kernel
theorem dX9_best_15 : decode cX9_best 15 = .ok (.if_icmp .ne 8, 3) := by decide +kernel
theorem dX9_best_18 : decode cX9_best 18 = .ok (.aload_n 0, 1) := by decide +kernel
theorem dX9_best_19 : decode cX9_best 19 = .ok (.getfield 220, 3) := by decide +kernel
theorem dX9_best_22 : decode cX9_best 22 = .ok (.ireturn, 1) := by decide +kernel
theorem dX9_best_23 : decode cX9_best 23 = .ok (.iload_n 1, 1) := by decide +kernel
theorem dX9_best_24 : decode cX9_best 24 = .ok (.bipush 10, 2) := by decide +kernel
theorem dX9_best_26 : decode cX9_best 26 = .ok (.bipush 9, 2) := by decide +kernel
theorem dX9_best_28 : decode cX9_best 28 = .ok (.aload_n 0, 1) := by decide +kernel
theorem dX9_best_29 : decode cX9_best 29 = .ok (.getfield 111, 3) := by decide +kernel
theorem dX9_best_32 : decode cX9_best 32 = .ok (.iadd, 1) := by decide +kernel
theorem dX9_best_33 : decode cX9_best 33 = .ok (.invokestatic 96, 3) := by decide +kernel
theorem dX9_best_36 : decode cX9_best 36 = .ok (.ifCond .eq 13, 3) := by decide +kernel
theorem dX9_best_39 : decode cX9_best 39 = .ok (.aload_n 0, 1) := by decide +kernel
theorem dX9_best_40 : decode cX9_best 40 = .ok (.getfield 90, 3) := by decide +kernel
theorem dX9_best_43 : decode cX9_best 43 = .ok (.iload_n 1, 1) := by decide +kernel
theorem dX9_best_44 : decode cX9_best 44 = .ok (.bipush 10, 2) := by decide +kernel
theorem dX9_best_46 : decode cX9_best 46 = .ok (.isub, 1) := by decide +kernel
theorem dX9_best_47 : decode cX9_best 47 = .ok (.iaload, 1) := by decide +kernel
theorem dX9_best_48 : decode cX9_best 48 = .ok (.ireturn, 1) := by decide +kernel
theorem dX9_best_49 : decode cX9_best 49 = .ok (.iload_n 1, 1) := by decide +kernel
theorem dX9_best_50 : decode cX9_best 50 = .ok (.bipush 20, 2) := by decide +kernel
theorem dX9_best_52 : decode cX9_best 52 = .ok (.bipush 19, 2) := by decide +kernel
theorem dX9_best_54 : decode cX9_best 54 = .ok (.aload_n 0, 1) := by decide +kernel
theorem dX9_best_55 : decode cX9_best 55 = .ok (.getfield 111, 3) := by decide +kernel
theorem dX9_best_58 : decode cX9_best 58 = .ok (.iadd, 1) := by decide +kernel
theorem dX9_best_59 : decode cX9_best 59 = .ok (.invokestatic 96, 3) := by decide +kernel
theorem dX9_best_62 : decode cX9_best 62 = .ok (.ifCond .eq 16, 3) := by decide +kernel
theorem dX9_best_65 : decode cX9_best 65 = .ok (.aload_n 0, 1) := by decide +kernel
theorem dX9_best_66 : decode cX9_best 66 = .ok (.getfield 90, 3) := by decide +kernel
theorem dX9_best_69 : decode cX9_best 69 = .ok (.iload_n 1, 1) := by decide +kernel
theorem dX9_best_70 : decode cX9_best 70 = .ok (.bipush 20, 2) := by decide +kernel
theorem dX9_best_72 : decode cX9_best 72 = .ok (.isub, 1) := by decide +kernel
theorem dX9_best_73 : decode cX9_best 73 = .ok (.iaload, 1) := by decide +kernel
theorem dX9_best_74 : decode cX9_best 74 = .ok (.iconst (-1), 1) := by decide +kernel
theorem dX9_best_75 : decode cX9_best 75 = .ok (.if_icmp .ne 5, 3) := by decide +kernel
theorem dX9_best_78 : decode cX9_best 78 = .ok (.iconst (-1), 1) := by decide +kernel
theorem dX9_best_79 : decode cX9_best 79 = .ok (.ireturn, 1) := by decide +kernel
theorem dX9_best_80 : decode cX9_best 80 = .ok (.aload_n 0, 1) := by decide +kernel
theorem dX9_best_81 : decode cX9_best 81 = .ok (.aload_n 0, 1) := by decide +kernel
theorem dX9_best_82 : decode cX9_best 82 = .ok (.getfield 90, 3) := by decide +kernel
theorem dX9_best_85 : decode cX9_best 85 = .ok (.iload_n 1, 1) := by decide +kernel
theorem dX9_best_86 : decode cX9_best 86 = .ok (.bipush 20, 2) := by decide +kernel
theorem dX9_best_88 : decode cX9_best 88 = .ok (.isub, 1) := by decide +kernel
theorem dX9_best_89 : decode cX9_best 89 = .ok (.iaload, 1) := by decide +kernel
theorem dX9_best_90 : decode cX9_best 90 = .ok (.aload_n 0, 1) := by decide +kernel
theorem dX9_best_91 : decode cX9_best 91 = .ok (.aload_n 0, 1) := by decide +kernel
theorem dX9_best_92 : decode cX9_best 92 = .ok (.getfield 90, 3) := by decide +kernel
theorem dX9_best_95 : decode cX9_best 95 = .ok (.iload_n 1, 1) := by decide +kernel
theorem dX9_best_96 : decode cX9_best 96 = .ok (.bipush 20, 2) := by decide +kernel
theorem dX9_best_98 : decode cX9_best 98 = .ok (.isub, 1) := by decide +kernel
theorem dX9_best_99 : decode cX9_best 99 = .ok (.iaload, 1) := by decide +kernel
theorem dX9_best_100 : decode cX9_best 100 = .ok (.invokevirtual 239, 3) := by decide +kernel
theorem dX9_best_103 : decode cX9_best 103 = .ok (.invokevirtual 230, 3) := by decide +kernel
theorem dX9_best_106 : decode cX9_best 106 = .ok (.istore_n 2, 1) := by decide +kernel
theorem dX9_best_107 : decode cX9_best 107 = .ok (.iload_n 2, 1) := by decide +kernel
theorem dX9_best_108 : decode cX9_best 108 = .ok (.ifCond .eq 15, 3) := by decide +kernel
theorem dX9_best_111 : decode cX9_best 111 = .ok (.aload_n 0, 1) := by decide +kernel
theorem dX9_best_112 : decode cX9_best 112 = .ok (.getfield 81, 3) := by decide +kernel
theorem dX9_best_115 : decode cX9_best 115 = .ok (.iload_n 1, 1) := by decide +kernel
theorem dX9_best_116 : decode cX9_best 116 = .ok (.bipush 20, 2) := by decide +kernel
theorem dX9_best_118 : decode cX9_best 118 = .ok (.isub, 1) := by decide +kernel
theorem dX9_best_119 : decode cX9_best 119 = .ok (.iaload, 1) := by decide +kernel
theorem dX9_best_120 : decode cX9_best 120 = .ok (.goto 4, 3) := by decide +kernel
theorem dX9_best_123 : decode cX9_best 123 = .ok (.iconst (-1), 1) := by decide +kernel
theorem dX9_best_124 : decode cX9_best 124 = .ok (.ireturn, 1) := by decide +kernel
theorem dX9_works_0 : decode cX9_works 0 = .ok (.aload_n 0, 1) := by decide +kernel
theorem dX9_works_1 : decode cX9_works 1 = .ok (.aload_n 0, 1) := by decide +kernel
theorem dX9_works_2 : decode cX9_works 2 = .ok (.iload_n 1, 1) := by decide +kernel
theorem dX9_works_3 : decode cX9_works 3 = .ok (.invokevirtual 239, 3) := by decide +kernel
theorem dX9_works_6 : decode cX9_works 6 = .ok (.invokevirtual 210, 3) := by decide +kernel
theorem dX9_works_9 : decode cX9_works 9 = .ok (.aload_n 0, 1) := by decide +kernel
theorem dX9_works_10 : decode cX9_works 10 = .ok (.getfield 7, 3) := by decide +kernel
theorem dX9_works_13 : decode cX9_works 13 = .ok (.bipush 52, 2) := by decide +kernel
theorem dX9_works_15 : decode cX9_works 15 = .ok (.iload_n 1, 1) := by decide +kernel
theorem dX9_works_16 : decode cX9_works 16 = .ok (.imul, 1) := by decide +kernel
theorem dX9_works_17 : decode cX9_works 17 = .ok (.aload_n 0, 1) := by decide +kernel
theorem dX9_works_18 : decode cX9_works 18 = .ok (.getfield 104, 3) := by decide +kernel
theorem dX9_works_21 : decode cX9_works 21 = .ok (.iadd, 1) := by decide +kernel
theorem dX9_works_22 : decode cX9_works 22 = .ok (.iaload, 1) := by decide +kernel
theorem dX9_works_23 : decode cX9_works 23 = .ok (.istore_n 2, 1) := by decide +kernel
theorem dX9_works_24 : decode cX9_works 24 = .ok (.iconst 0, 1) := by decide +kernel
theorem dX9_works_25 : decode cX9_works 25 = .ok (.istore_n 3, 1) := by decide +kernel
theorem dX9_works_26 : decode cX9_works 26 = .ok (.iload_n 3, 1) := by decide +kernel
theorem dX9_works_27 : decode cX9_works 27 = .ok (.aload_n 0, 1) := by decide +kernel
theorem dX9_works_28 : decode cX9_works 28 = .ok (.getfield 207, 3) := by decide +kernel
theorem dX9_works_31 : decode cX9_works 31 = .ok (.if_icmp .ge 143, 3) := by decide +kernel
theorem dX9_works_34 : decode cX9_works 34 = .ok (.iload_n 2, 1) := by decide +kernel
theorem dX9_works_35 : decode cX9_works 35 = .ok (.ifCond .le 139, 3) := by decide +kernel
theorem dX9_works_38 : decode cX9_works 38 = .ok (.aload_n 0, 1) := by decide +kernel
theorem dX9_works_39 : decode cX9_works 39 = .ok (.getfield 78, 3) := by decide +kernel
theorem dX9_works_42 : decode cX9_works 42 = .ok (.iload_n 3, 1) := by decide +kernel
theorem dX9_works_43 : decode cX9_works 43 = .ok (.iaload, 1) := by decide +kernel
theorem dX9_works_44 : decode cX9_works 44 = .ok (.istore 4, 2) := by decide +kernel
theorem dX9_works_46 : decode cX9_works 46 = .ok (.aload_n 0, 1) := by decide +kernel
theorem dX9_works_47 : decode cX9_works 47 = .ok (.iload_n 1, 1) := by decide +kernel
theorem dX9_works_48 : decode cX9_works 48 = .ok (.iload 4, 2) := by decide +kernel
theorem dX9_works_50 : decode cX9_works 50 = .ok (.invokevirtual 213, 3) := by decide +kernel
theorem dX9_works_53 : decode cX9_works 53 = .ok (.istore 5, 2) := by decide +kernel
theorem dX9_works_55 : decode cX9_works 55 = .ok (.iload 5, 2) := by decide +kernel
theorem dX9_works_57 : decode cX9_works 57 = .ok (.iload_n 2, 1) := by decide +kernel
theorem dX9_works_58 : decode cX9_works 58 = .ok (.if_icmp .ge 8, 3) := by decide +kernel
theorem dX9_works_61 : decode cX9_works 61 = .ok (.iload 5, 2) := by decide +kernel
theorem dX9_works_63 : decode cX9_works 63 = .ok (.goto 4, 3) := by decide +kernel
theorem dX9_works_66 : decode cX9_works 66 = .ok (.iload_n 2, 1) := by decide +kernel
theorem dX9_works_67 : decode cX9_works 67 = .ok (.istore 6, 2) := by decide +kernel
theorem dX9_works_69 : decode cX9_works 69 = .ok (.aload_n 0, 1) := by decide +kernel
theorem dX9_works_70 : decode cX9_works 70 = .ok (.getfield 52, 3) := by decide +kernel
theorem dX9_works_73 : decode cX9_works 73 = .ok (.iload 4, 2) := by decide +kernel
theorem dX9_works_75 : decode cX9_works 75 = .ok (.aload_n 0, 1) := by decide +kernel
theorem dX9_works_76 : decode cX9_works 76 = .ok (.getfield 43, 3) := by decide +kernel
theorem dX9_works_79 : decode cX9_works 79 = .ok (.iload 4, 2) := by decide +kernel
theorem dX9_works_81 : decode cX9_works 81 = .ok (.iaload, 1) := by decide +kernel
theorem dX9_works_82 : decode cX9_works 82 = .ok (.iload 5, 2) := by decide +kernel
theorem dX9_works_84 : decode cX9_works 84 = .ok (.isub, 1) := by decide +kernel
theorem dX9_works_85 : decode cX9_works 85 = .ok (.iload 6, 2) := by decide +kernel
theorem dX9_works_87 : decode cX9_works 87 = .ok (.iadd, 1) := by decide +kernel
theorem dX9_works_88 : decode cX9_works 88 = .ok (.iastore, 1) := by decide +kernel
theorem dX9_works_89 : decode cX9_works 89 = .ok (.aload_n 0, 1) := by decide +kernel
theorem dX9_works_90 : decode cX9_works 90 = .ok (.getfield 55, 3) := by decide +kernel
theorem dX9_works_93 : decode cX9_works 93 = .ok (.iload 4, 2) := by decide +kernel
theorem dX9_works_95 : decode cX9_works 95 = .ok (.iload_n 1, 1) := by decide +kernel
theorem dX9_works_96 : decode cX9_works 96 = .ok (.iastore, 1) := by decide +kernel
theorem dX9_works_97 : decode cX9_works 97 = .ok (.iload_n 2, 1) := by decide +kernel
theorem dX9_works_98 : decode cX9_works 98 = .ok (.iload 6, 2) := by decide +kernel
theorem dX9_works_100 : decode cX9_works 100 = .ok (.isub, 1) := by decide +kernel
theorem dX9_works_101 : decode cX9_works 101 = .ok (.istore_n 2, 1) := by decide +kernel
theorem dX9_works_102 : decode cX9_works 102 = .ok (.iload 6, 2) := by decide +kernel
theorem dX9_works_104 : decode cX9_works 104 = .ok (.iload 5, 2) := by decide +kernel
theorem dX9_works_106 : decode cX9_works 106 = .ok (.if_icmp .ge 6, 3) := by decide +kernel
theorem dX9_works_109 : decode cX9_works 109 = .ok (.goto 59, 3) := by decide +kernel
theorem dX9_works_112 : decode cX9_works 112 = .ok (.aload_n 0, 1) := by decide +kernel
theorem dX9_works_113 : decode cX9_works 113 = .ok (.getfield 49, 3) := by decide +kernel
theorem dX9_works_116 : decode cX9_works 116 = .ok (.iload 4, 2) := by decide +kernel
theorem dX9_works_118 : decode cX9_works 118 = .ok (.iconst 1, 1) := by decide +kernel
theorem dX9_works_119 : decode cX9_works 119 = .ok (.iastore, 1) := by decide +kernel
theorem dX9_works_120 : decode cX9_works 120 = .ok (.aload_n 0, 1) := by decide +kernel
theorem dX9_works_121 : decode cX9_works 121 = .ok (.getfield 13, 3) := by decide +kernel
theorem dX9_works_124 : decode cX9_works 124 = .ok (.iload_n 1, 1) := by decide +kernel
theorem dX9_works_125 : decode cX9_works 125 = .ok (.dup2, 1) := by decide +kernel
theorem dX9_works_126 : decode cX9_works 126 = .ok (.iaload, 1) := by decide +kernel
theorem dX9_works_127 : decode cX9_works 127 = .ok (.aload_n 0, 1) := by decide +kernel
theorem dX9_works_128 : decode cX9_works 128 = .ok (.getfield 46, 3) := by decide +kernel
theorem dX9_works_131 : decode cX9_works 131 = .ok (.iload 4, 2) := by decide +kernel
theorem dX9_works_133 : decode cX9_works 133 = .ok (.iaload, 1) := by decide +kernel
theorem dX9_works_134 : decode cX9_works 134 = .ok (.isub, 1) := by decide +kernel
theorem dX9_works_135 : decode cX9_works 135 = .ok (.iastore, 1) := by decide +kernel
theorem dX9_works_136 : decode cX9_works 136 = .ok (.aload_n 0, 1) := by decide +kernel
theorem dX9_works_137 : decode cX9_works 137 = .ok (.getfield 16, 3) := by decide +kernel
theorem dX9_works_140 : decode cX9_works 140 = .ok (.iload_n 1, 1) := by decide +kernel
theorem dX9_works_141 : decode cX9_works 141 = .ok (.dup2, 1) := by decide +kernel
theorem dX9_works_142 : decode cX9_works 142 = .ok (.iaload, 1) := by decide +kernel
theorem dX9_works_143 : decode cX9_works 143 = .ok (.aload_n 0, 1) := by decide +kernel
theorem dX9_works_144 : decode cX9_works 144 = .ok (.getfield 46, 3) := by decide +kernel
theorem dX9_works_147 : decode cX9_works 147 = .ok (.iload 4, 2) := by decide +kernel
theorem dX9_works_149 : decode cX9_works 149 = .ok (.iaload, 1) := by decide +kernel
theorem dX9_works_150 : decode cX9_works 150 = .ok (.iadd, 1) := by decide +kernel
theorem dX9_works_151 : decode cX9_works 151 = .ok (.iastore, 1) := by decide +kernel
theorem dX9_works_152 : decode cX9_works 152 = .ok (.aload_n 0, 1) := by decide +kernel
theorem dX9_works_153 : decode cX9_works 153 = .ok (.dup, 1) := by decide +kernel
theorem dX9_works_154 : decode cX9_works 154 = .ok (.getfield 233, 3) := by decide +kernel
theorem dX9_works_157 : decode cX9_works 157 = .ok (.aload_n 0, 1) := by decide +kernel
theorem dX9_works_158 : decode cX9_works 158 = .ok (.getfield 37, 3) := by decide +kernel
theorem dX9_works_161 : decode cX9_works 161 = .ok (.iload 4, 2) := by decide +kernel
theorem dX9_works_163 : decode cX9_works 163 = .ok (.iaload, 1) := by decide +kernel
theorem dX9_works_164 : decode cX9_works 164 = .ok (.iadd, 1) := by decide +kernel
theorem dX9_works_165 : decode cX9_works 165 = .ok (.putfield 233, 3) := by decide +kernel
theorem dX9_works_168 : decode cX9_works 168 = .ok (.iinc 3 1, 3) := by decide +kernel
theorem dX9_works_171 : decode cX9_works 171 = .ok (.goto (-145), 3) := by decide +kernel
theorem dX9_works_174 : decode cX9_works 174 = .ok (.return_, 1) := by decide +kernel
theorem dX9_work_0 : decode cX9_work 0 = .ok (.aload_n 0, 1) := by decide +kernel
theorem dX9_work_1 : decode cX9_work 1 = .ok (.getfield 104, 3) := by decide +kernel
theorem dX9_work_4 : decode cX9_work 4 = .ok (.bipush 51, 2) := by decide +kernel
theorem dX9_work_6 : decode cX9_work 6 = .ok (.if_icmp .ne 5, 3) := by decide +kernel
theorem dX9_work_9 : decode cX9_work 9 = .ok (.iconst (-1), 1) := by decide +kernel
theorem dX9_work_10 : decode cX9_work 10 = .ok (.ireturn, 1) := by decide +kernel
theorem dX9_work_11 : decode cX9_work 11 = .ok (.aload_n 0, 1) := by decide +kernel
theorem dX9_work_12 : decode cX9_work 12 = .ok (.invokevirtual 236, 3) := by decide +kernel
theorem dX9_work_15 : decode cX9_work 15 = .ok (.iconst 0, 1) := by decide +kernel
theorem dX9_work_16 : decode cX9_work 16 = .ok (.istore_n 1, 1) := by decide +kernel
theorem dX9_work_17 : decode cX9_work 17 = .ok (.iload_n 1, 1) := by decide +kernel
theorem dX9_work_18 : decode cX9_work 18 = .ok (.iconst 4, 1) := by decide +kernel
theorem dX9_work_19 : decode cX9_work 19 = .ok (.if_icmp .ge 14, 3) := by decide +kernel
theorem dX9_work_22 : decode cX9_work 22 = .ok (.aload_n 0, 1) := by decide +kernel
theorem dX9_work_23 : decode cX9_work 23 = .ok (.iload_n 1, 1) := by decide +kernel
theorem dX9_work_24 : decode cX9_work 24 = .ok (.invokevirtual 242, 3) := by decide +kernel
theorem dX9_work_27 : decode cX9_work 27 = .ok (.iinc 1 1, 3) := by decide +kernel
theorem dX9_work_30 : decode cX9_work 30 = .ok (.goto (-13), 3) := by decide +kernel
theorem dX9_work_33 : decode cX9_work 33 = .ok (.aload_n 0, 1) := by decide +kernel
theorem dX9_work_34 : decode cX9_work 34 = .ok (.dup, 1) := by decide +kernel
theorem dX9_work_35 : decode cX9_work 35 = .ok (.getfield 104, 3) := by decide +kernel
theorem dX9_work_38 : decode cX9_work 38 = .ok (.iconst 1, 1) := by decide +kernel
theorem dX9_work_39 : decode cX9_work 39 = .ok (.iadd, 1) := by decide +kernel
theorem dX9_work_40 : decode cX9_work 40 = .ok (.putfield 104, 3) := by decide +kernel
theorem dX9_work_43 : decode cX9_work 43 = .ok (.iconst 0, 1) := by decide +kernel
theorem dX9_work_44 : decode cX9_work 44 = .ok (.istore_n 1, 1) := by decide +kernel
theorem dX9_work_45 : decode cX9_work 45 = .ok (.iload_n 1, 1) := by decide +kernel
theorem dX9_work_46 : decode cX9_work 46 = .ok (.aload_n 0, 1) := by decide +kernel
theorem dX9_work_47 : decode cX9_work 47 = .ok (.getfield 111, 3) := by decide +kernel
theorem dX9_work_50 : decode cX9_work 50 = .ok (.if_icmp .ge 37, 3) := by decide +kernel
theorem dX9_work_53 : decode cX9_work 53 = .ok (.aload_n 0, 1) := by decide +kernel
theorem dX9_work_54 : decode cX9_work 54 = .ok (.iload_n 1, 1) := by decide +kernel
theorem dX9_work_55 : decode cX9_work 55 = .ok (.invokevirtual 117, 3) := by decide +kernel
theorem dX9_work_58 : decode cX9_work 58 = .ok (.ifCond .eq 23, 3) := by decide +kernel
theorem dX9_work_61 : decode cX9_work 61 = .ok (.aload_n 0, 1) := by decide +kernel
theorem dX9_work_62 : decode cX9_work 62 = .ok (.getfield 34, 3) := by decide +kernel
theorem dX9_work_65 : decode cX9_work 65 = .ok (.iload_n 1, 1) := by decide +kernel
theorem dX9_work_66 : decode cX9_work 66 = .ok (.iaload, 1) := by decide +kernel
theorem dX9_work_67 : decode cX9_work 67 = .ok (.aload_n 0, 1) := by decide +kernel
theorem dX9_work_68 : decode cX9_work 68 = .ok (.getfield 104, 3) := by decide +kernel
theorem dX9_work_71 : decode cX9_work 71 = .ok (.if_icmp .ge 10, 3) := by decide +kernel
theorem dX9_work_74 : decode cX9_work 74 = .ok (.aload_n 0, 1) := by decide +kernel
theorem dX9_work_75 : decode cX9_work 75 = .ok (.getfield 49, 3) := by decide +kernel
theorem dX9_work_78 : decode cX9_work 78 = .ok (.iload_n 1, 1) := by decide +kernel
theorem dX9_work_79 : decode cX9_work 79 = .ok (.iconst 3, 1) := by decide +kernel
theorem dX9_work_80 : decode cX9_work 80 = .ok (.iastore, 1) := by decide +kernel
theorem dX9_work_81 : decode cX9_work 81 = .ok (.iinc 1 1, 3) := by decide +kernel
theorem dX9_work_84 : decode cX9_work 84 = .ok (.goto (-39), 3) := by decide +kernel
theorem dX9_work_87 : decode cX9_work 87 = .ok (.aload_n 0, 1) := by decide +kernel
theorem dX9_work_88 : decode cX9_work 88 = .ok (.getfield 104, 3) := by decide +kernel
theorem dX9_work_91 : decode cX9_work 91 = .ok (.ireturn, 1) := by decide +kernel
