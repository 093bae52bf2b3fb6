theorem dX11_init_0 : decode cX11_init 0 = .ok (.aload_n 0, 1) := by decide +kernel
theorem dX11_init_1 : decode cX11_init 1 = .ok (.invokespecial 1, 3) := by decide +kernel
theorem dX11_init_4 : decode cX11_init 4 = .ok (.aload_n 0, 1) := by decide +kernel
theorem dX11_init_5 : decode cX11_init 5 = .ok (.iconst 2, 1) := by decide +kernel
theorem dX11_init_6 : decode cX11_init 6 = .ok (.newarray .int, 2) := by decide +kernel
theorem dX11_init_8 : decode cX11_init 8 = .ok (.putfield 7, 3) := by decide +kernel
theorem dX11_init_11 : decode cX11_init 11 = .ok (.aload_n 0, 1) := by decide +kernel
theorem dX11_init_12 : decode cX11_init 12 = .ok (.bipush 78, 2) := by decide +kernel
theorem dX11_init_14 : decode cX11_init 14 = .ok (.newarray .int, 2) := by decide +kernel
theorem dX11_init_16 : decode cX11_init 16 = .ok (.putfield 13, 3) := by decide +kernel
theorem dX11_init_19 : decode cX11_init 19 = .ok (.aload_n 0, 1) := by decide +kernel
theorem dX11_init_20 : decode cX11_init 20 = .ok (.bipush 9, 2) := by decide +kernel
theorem dX11_init_22 : decode cX11_init 22 = .ok (.newarray .int, 2) := by decide +kernel
theorem dX11_init_24 : decode cX11_init 24 = .ok (.putfield 16, 3) := by decide +kernel
theorem dX11_init_27 : decode cX11_init 27 = .ok (.aload_n 0, 1) := by decide +kernel
theorem dX11_init_28 : decode cX11_init 28 = .ok (.bipush 9, 2) := by decide +kernel
theorem dX11_init_30 : decode cX11_init 30 = .ok (.newarray .int, 2) := by decide +kernel
theorem dX11_init_32 : decode cX11_init 32 = .ok (.putfield 19, 3) := by decide +kernel
theorem dX11_init_35 : decode cX11_init 35 = .ok (.aload_n 0, 1) := by decide +kernel
theorem dX11_init_36 : decode cX11_init 36 = .ok (.bipush 9, 2) := by decide +kernel
theorem dX11_init_38 : decode cX11_init 38 = .ok (.newarray .int, 2) := by decide +kernel
theorem dX11_init_40 : decode cX11_init 40 = .ok (.putfield 22, 3) := by decide +kernel
theorem dX11_init_43 : decode cX11_init 43 = .ok (.aload_n 0, 1) := by decide +kernel
theorem dX11_init_44 : decode cX11_init 44 = .ok (.bipush 11, 2) := by decide +kernel
theorem dX11_init_46 : decode cX11_init 46 = .ok (.newarray .int, 2) := by decide +kernel
theorem dX11_init_48 : decode cX11_init 48 = .ok (.putfield 25, 3) := by decide +kernel
theorem dX11_init_51 : decode cX11_init 51 = .ok (.aload_n 0, 1) := by decide +kernel
theorem dX11_init_52 : decode cX11_init 52 = .ok (.bipush 11, 2) := by decide +kernel
theorem dX11_init_54 : decode cX11_init 54 = .ok (.newarray .int, 2) := by decide +kernel
theorem dX11_init_56 : decode cX11_init 56 = .ok (.putfield 28, 3) := by decide +kernel
theorem dX11_init_59 : decode cX11_init 59 = .ok (.aload_n 0, 1) := by decide +kernel
theorem dX11_init_60 : decode cX11_init 60 = .ok (.bipush 11, 2) := by decide +kernel
theorem dX11_init_62 : decode cX11_init 62 = .ok (.newarray .int, 2) := by decide +kernel
theorem dX11_init_64 : decode cX11_init 64 = .ok (.putfield 31, 3) := by decide +kernel
theorem dX11_init_67 : decode cX11_init 67 = .ok (.aload_n 0, 1) := by decide +kernel
theorem dX11_init_68 : decode cX11_init 68 = .ok (.bipush 9, 2) := by decide +kernel
theorem dX11_init_70 : decode cX11_init 70 = .ok (.newarray .int, 2) := by decide +kernel
theorem dX11_init_72 : decode cX11_init 72 = .ok (.putfield 34, 3) := by decide +kernel
theorem dX11_init_75 : decode cX11_init 75 = .ok (.aload_n 0, 1) := by decide +kernel
theorem dX11_init_76 : decode cX11_init 76 = .ok (.bipush 9, 2) := by decide +kernel
theorem dX11_init_78 : decode cX11_init 78 = .ok (.newarray .int, 2) := by decide +kernel
theorem dX11_init_80 : decode cX11_init 80 = .ok (.putfield 37, 3) := by decide +kernel
theorem dX11_init_83 : decode cX11_init 83 = .ok (.aload_n 0, 1) := by decide +kernel
theorem dX11_init_84 : decode cX11_init 84 = .ok (.bipush 9, 2) := by decide +kernel
theorem dX11_init_86 : decode cX11_init 86 = .ok (.newarray .int, 2) := by decide +kernel
theorem dX11_init_88 : decode cX11_init 88 = .ok (.putfield 40, 3) := by decide +kernel
theorem dX11_init_91 : decode cX11_init 91 = .ok (.aload_n 0, 1) := by decide +kernel
theorem dX11_init_92 : decode cX11_init 92 = .ok (.bipush 8, 2) := by decide +kernel
theorem dX11_init_94 : decode cX11_init 94 = .ok (.newarray .int, 2) := by decide +kernel
theorem dX11_init_96 : decode cX11_init 96 = .ok (.putfield 43, 3) := by decide +kernel
theorem dX11_init_99 : decode cX11_init 99 = .ok (.aload_n 0, 1) := by decide +kernel
theorem dX11_init_100 : decode cX11_init 100 = .ok (.bipush 8, 2) := by decide +kernel
theorem dX11_init_102 : decode cX11_init 102 = .ok (.newarray .int, 2) := by decide +kernel
theorem dX11_init_104 : decode cX11_init 104 = .ok (.putfield 46, 3) := by decide +kernel
theorem dX11_init_107 : decode cX11_init 107 = .ok (.aload_n 0, 1) := by decide +kernel
theorem dX11_init_108 : decode cX11_init 108 = .ok (.bipush 8, 2) := by decide +kernel
theorem dX11_init_110 : decode cX11_init 110 = .ok (.newarray .int, 2) := by decide +kernel
theorem dX11_init_112 : decode cX11_init 112 = .ok (.putfield 49, 3) := by decide +kernel
theorem dX11_init_115 : decode cX11_init 115 = .ok (.aload_n 0, 1) := by decide +kernel
theorem dX11_init_116 : decode cX11_init 116 = .ok (.bipush 6, 2) := by decide +kernel
theorem dX11_init_118 : decode cX11_init 118 = .ok (.newarray .int, 2) := by decide +kernel
theorem dX11_init_120 : decode cX11_init 120 = .ok (.putfield 52, 3) := by decide +kernel
theorem dX11_init_123 : decode cX11_init 123 = .ok (.aload_n 0, 1) := by decide +kernel
theorem dX11_init_124 : decode cX11_init 124 = .ok (.bipush 8, 2) := by decide +kernel
theorem dX11_init_126 : decode cX11_init 126 = .ok (.newarray .int, 2) := by decide +kernel
theorem dX11_init_128 : decode cX11_init 128 = .ok (.putfield 55, 3) := by decide +kernel
theorem dX11_init_131 : decode cX11_init 131 = .ok (.aload_n 0, 1) := by decide +kernel
theorem dX11_init_132 : decode cX11_init 132 = .ok (.bipush 8, 2) := by decide +kernel
theorem dX11_init_134 : decode cX11_init 134 = .ok (.newarray .int, 2) := by decide +kernel
theorem dX11_init_136 : decode cX11_init 136 = .ok (.putfield 58, 3) := by decide +kernel
theorem dX11_init_139 : decode cX11_init 139 = .ok (.aload_n 0, 1) := by decide +kernel
theorem dX11_init_140 : decode cX11_init 140 = .ok (.bipush 8, 2) := by decide +kernel
theorem dX11_init_142 : decode cX11_init 142 = .ok (.newarray .int, 2) := by decide +kernel
theorem dX11_init_144 : decode cX11_init 144 = .ok (.putfield 61, 3) := by decide +kernel
theorem dX11_init_147 : decode cX11_init 147 = .ok (.aload_n 0, 1) := by decide +kernel
theorem dX11_init_148 : decode cX11_init 148 = .ok (.bipush 8, 2) := by decide +kernel
theorem dX11_init_150 : decode cX11_init 150 = .ok (.newarray .int, 2) := by decide +kernel
theorem dX11_init_152 : decode cX11_init 152 = .ok (.putfield 64, 3) := by decide +kernel
theorem dX11_init_155 : decode cX11_init 155 = .ok (.aload_n 0, 1) := by decide +kernel
theorem dX11_init_156 : decode cX11_init 156 = .ok (.bipush 8, 2) := by decide +kernel
theorem dX11_init_158 : decode cX11_init 158 = .ok (.newarray .int, 2) := by decide +kernel
theorem dX11_init_160 : decode cX11_init 160 = .ok (.putfield 67, 3) := by decide +kernel
theorem dX11_init_163 : decode cX11_init 163 = .ok (.aload_n 0, 1) := by decide +kernel
theorem dX11_init_164 : decode cX11_init 164 = .ok (.iconst 4, 1) := by decide +kernel
theorem dX11_init_165 : decode cX11_init 165 = .ok (.newarray .int, 2) := by decide +kernel
theorem dX11_init_167 : decode cX11_init 167 = .ok (.putfield 70, 3) := by decide +kernel
theorem dX11_init_170 : decode cX11_init 170 = .ok (.aload_n 0, 1) := by decide +kernel
theorem dX11_init_171 : decode cX11_init 171 = .ok (.iconst 4, 1) := by decide +kernel
theorem dX11_init_172 : decode cX11_init 172 = .ok (.newarray .int, 2) := by decide +kernel
theorem dX11_init_174 : decode cX11_init 174 = .ok (.putfield 73, 3) := by decide +kernel
theorem dX11_init_177 : decode cX11_init 177 = .ok (.aload_n 0, 1) := by decide +kernel
theorem dX11_init_178 : decode cX11_init 178 = .ok (.sipush 192, 3) := by decide +kernel
theorem dX11_init_181 : decode cX11_init 181 = .ok (.newarray .int, 2) := by decide +kernel
theorem dX11_init_183 : decode cX11_init 183 = .ok (.putfield 76, 3) := by decide +kernel
theorem dX11_init_186 : decode cX11_init 186 = .ok (.aload_n 0, 1) := by decide +kernel
theorem dX11_init_187 : decode cX11_init 187 = .ok (.sipush 192, 3) := by decide +kernel
theorem dX11_init_190 : decode cX11_init 190 = .ok (.newarray .int, 2) := by decide +kernel
theorem dX11_init_192 : decode cX11_init 192 = .ok (.putfield 79, 3) := by decide +kernel
theorem dX11_init_195 : decode cX11_init 195 = .ok (.aload_n 0, 1) := by decide +kernel
theorem dX11_init_196 : decode cX11_init 196 = .ok (.sipush 192, 3) := by decide +kernel
theorem dX11_init_199 : decode cX11_init 199 = .ok (.newarray .int, 2) := by decide +kernel
theorem dX11_init_201 : decode cX11_init 201 = .ok (.putfield 82, 3) := by decide +kernel
theorem dX11_init_204 : decode cX11_init 204 = .ok (.aload_n 0, 1) := by decide +kernel
theorem dX11_init_205 : decode cX11_init 205 = .ok (.bipush 24, 2) := by decide +kernel
theorem dX11_init_207 : decode cX11_init 207 = .ok (.newarray .int, 2) := by decide +kernel
theorem dX11_init_209 : decode cX11_init 209 = .ok (.putfield 85, 3) := by decide +kernel
theorem dX11_init_212 : decode cX11_init 212 = .ok (.aload_n 0, 1) := by decide +kernel
theorem dX11_init_213 : decode cX11_init 213 = .ok (.bipush 24, 2) := by decide +kernel
theorem dX11_init_215 : decode cX11_init 215 = .ok (.newarray .int, 2) := by decide +kernel
theorem dX11_init_217 : decode cX11_init 217 = .ok (.putfield 88, 3) := by decide +kernel
theorem dX11_init_220 : decode cX11_init 220 = .ok (.aload_n 0, 1) := by decide +kernel
theorem dX11_init_221 : decode cX11_init 221 = .ok (.bipush 96, 2) := by decide +kernel
theorem dX11_init_223 : decode cX11_init 223 = .ok (.newarray .int, 2) := by decide +kernel
theorem dX11_init_225 : decode cX11_init 225 = .ok (.putfield 91, 3) := by decide +kernel
theorem dX11_init_228 : decode cX11_init 228 = .ok (.aload_n 0, 1) := by decide +kernel
theorem dX11_init_229 : decode cX11_init 229 = .ok (.bipush 96, 2) := by decide +kernel
theorem dX11_init_231 : decode cX11_init 231 = .ok (.newarray .int, 2) := by decide +kernel
theorem dX11_init_233 : decode cX11_init 233 = .ok (.putfield 94, 3) := by decide +kernel
theorem dX11_init_236 : decode cX11_init 236 = .ok (.aload_n 0, 1) := by decide +kernel
theorem dX11_init_237 : decode cX11_init 237 = .ok (.iconst 2, 1) := by decide +kernel
theorem dX11_init_238 : decode cX11_init 238 = .ok (.newarray .int, 2) := by decide +kernel
theorem dX11_init_240 : decode cX11_init 240 = .ok (.putfield 97, 3) := by decide +kernel
theorem dX11_init_243 : decode cX11_init 243 = .ok (.aload_n 0, 1) := by decide +kernel
theorem dX11_init_244 : decode cX11_init 244 = .ok (.iconst 2, 1) := by decide +kernel
theorem dX11_init_245 : decode cX11_init 245 = .ok (.newarray .int, 2) := by decide +kernel
theorem dX11_init_247 : decode cX11_init 247 = .ok (.putfield 100, 3) := by decide +kernel
theorem dX11_init_250 : decode cX11_init 250 = .ok (.aload_n 0, 1) := by decide +kernel
theorem dX11_init_251 : decode cX11_init 251 = .ok (.bipush 8, 2) := by decide +kernel
theorem dX11_init_253 : decode cX11_init 253 = .ok (.newarray .int, 2) := by decide +kernel
theorem dX11_init_255 : decode cX11_init 255 = .ok (.putfield 103, 3) := by decide +kernel
theorem dX11_init_258 : decode cX11_init 258 = .ok (.aload_n 0, 1) := by decide +kernel
theorem dX11_init_259 : decode cX11_init 259 = .ok (.bipush 8, 2) := by decide +kernel
theorem dX11_init_261 : decode cX11_init 261 = .ok (.newarray .int, 2) := by decide +kernel
theorem dX11_init_263 : decode cX11_init 263 = .ok (.putfield 106, 3) := by decide +kernel
theorem dX11_init_266 : decode cX11_init 266 = .ok (.aload_n 0, 1) := by decide +kernel
theorem dX11_init_267 : decode cX11_init 267 = .ok (.bipush 8, 2) := by decide +kernel
theorem dX11_init_269 : decode cX11_init 269 = .ok (.newarray .int, 2) := by decide +kernel
theorem dX11_init_271 : decode cX11_init 271 = .ok (.putfield 109, 3) := by decide +kernel
theorem dX11_init_274 : decode cX11_init 274 = .ok (.aload_n 0, 1) := by decide +kernel
theorem dX11_init_275 : decode cX11_init 275 = .ok (.sipush 240, 3) := by decide +kernel
theorem dX11_init_278 : decode cX11_init 278 = .ok (.newarray .int, 2) := by decide +kernel
theorem dX11_init_280 : decode cX11_init 280 = .ok (.putfield 112, 3) := by decide +kernel
theorem dX11_init_283 : decode cX11_init 283 = .ok (.aload_n 0, 1) := by decide +kernel
theorem dX11_init_284 : decode cX11_init 284 = .ok (.iconst 4, 1) := by decide +kernel
theorem dX11_init_285 : decode cX11_init 285 = .ok (.newarray .boolean, 2) := by decide +kernel
theorem dX11_init_287 : decode cX11_init 287 = .ok (.putfield 115, 3) := by decide +kernel
theorem dX11_init_290 : decode cX11_init 290 = .ok (.aload_n 0, 1) := by decide +kernel
theorem dX11_init_291 : decode cX11_init 291 = .ok (.iconst 4, 1) := by decide +kernel
theorem dX11_init_292 : decode cX11_init 292 = .ok (.newarray .int, 2) := by decide +kernel
theorem dX11_init_294 : decode cX11_init 294 = .ok (.putfield 119, 3) := by decide +kernel
theorem dX11_init_297 : decode cX11_init 297 = .ok (.aload_n 0, 1) := by decide +kernel
theorem dX11_init_298 : decode cX11_init 298 = .ok (.iconst 4, 1) := by decide +kernel
theorem dX11_init_299 : decode cX11_init 299 = .ok (.newarray .int, 2) := by decide +kernel
theorem dX11_init_301 : decode cX11_init 301 = .ok (.putfield 122, 3) := by decide +kernel
theorem dX11_init_304 : decode cX11_init 304 = .ok (.aload_n 0, 1) := by decide +kernel
theorem dX11_init_305 : decode cX11_init 305 = .ok (.sipush 240, 3) := by decide +kernel
theorem dX11_init_308 : decode cX11_init 308 = .ok (.newarray .int, 2) := by decide +kernel
theorem dX11_init_310 : decode cX11_init 310 = .ok (.putfield 125, 3) := by decide +kernel
theorem dX11_init_313 : decode cX11_init 313 = .ok (.aload_n 0, 1) := by decide +kernel
theorem dX11_init_314 : decode cX11_init 314 = .ok (.bipush 60, 2) := by decide +kernel
theorem dX11_init_316 : decode cX11_init 316 = .ok (.newarray .int, 2) := by decide +kernel
theorem dX11_init_318 : decode cX11_init 318 = .ok (.putfield 128, 3) := by decide +kernel
theorem dX11_init_321 : decode cX11_init 321 = .ok (.aload_n 0, 1) := by decide +kernel
theorem dX11_init_322 : decode cX11_init 322 = .ok (.iconst 3, 1) := by decide +kernel
theorem dX11_init_323 : decode cX11_init 323 = .ok (.putfield 131, 3) := by decide +kernel
theorem dX11_init_326 : decode cX11_init 326 = .ok (.aload_n 0, 1) := by decide +kernel
theorem dX11_init_327 : decode cX11_init 327 = .ok (.bipush 10, 2) := by decide +kernel
theorem dX11_init_329 : decode cX11_init 329 = .ok (.putfield 135, 3) := by decide +kernel
theorem dX11_init_332 : decode cX11_init 332 = .ok (.return_, 1) := by decide +kernel
theorem dX11_in_0 : decode cX11_in 0 = .ok (.iload_n 0, 1) := by decide +kernel
theorem dX11_in_1 : decode cX11_in 1 = .ok (.iload_n 1, 1) := by decide +kernel
theorem dX11_in_2 : decode cX11_in 2 = .ok (.if_icmp .lt 12, 3) := by decide +kernel
theorem dX11_in_5 : decode cX11_in 5 = .ok (.iload_n 0, 1) := by decide +kernel
theorem dX11_in_6 : decode cX11_in 6 = .ok (.iload_n 2, 1) := by decide +kernel
theorem dX11_in_7 : decode cX11_in 7 = .ok (.if_icmp .gt 7, 3) := by decide +kernel
theorem dX11_in_10 : decode cX11_in 10 = .ok (.iconst 1, 1) := by decide +kernel
theorem dX11_in_11 : decode cX11_in 11 = .ok (.goto 4, 3) := by decide +kernel
theorem dX11_in_14 : decode cX11_in 14 = .ok (.iconst 0, 1) := by decide +kernel
theorem dX11_in_15 : decode cX11_in 15 = .ok (.ireturn, 1) := by decide +kernel
theorem dX11_isIn_0 : decode cX11_isIn 0 = .ok (.iload_n 0, 1) := by decide +kernel
theorem dX11_isIn_1 : decode cX11_isIn 1 = .ok (.iload_n 1, 1) := by decide +kernel
theorem dX11_isIn_2 : decode cX11_isIn 2 = .ok (.ishr, 1) := by decide +kernel
theorem dX11_isIn_3 : decode cX11_isIn 3 = .ok (.iconst 1, 1) := by decide +kernel
theorem dX11_isIn_4 : decode cX11_isIn 4 = .ok (.iand, 1) := by decide +kernel
theorem dX11_isIn_5 : decode cX11_isIn 5 = .ok (.iconst 1, 1) := by decide +kernel
theorem dX11_isIn_6 : decode cX11_isIn 6 = .ok (.if_icmp .ne 7, 3) := by decide +kernel
theorem dX11_isIn_9 : decode cX11_isIn 9 = .ok (.iconst 1, 1) := by decide +kernel
theorem dX11_isIn_10 : decode cX11_isIn 10 = .ok (.goto 4, 3) := by decide +kernel
theorem dX11_isIn_13 : decode cX11_isIn 13 = .ok (.iconst 0, 1) := by decide +kernel
theorem dX11_isIn_14 : decode cX11_isIn 14 = .ok (.ireturn, 1) := by decide +kernel
theorem dX11_no_0 : decode cX11_no 0 = .ok (.ldc2_w 138, 3) := by decide +kernel
theorem dX11_no_3 : decode cX11_no 3 = .ok (.iload_n 0, 1) := by decide +kernel
theorem dX11_no_4 : decode cX11_no 4 = .ok (.i2l, 1) := by decide +kernel
theorem dX11_no_5 : decode cX11_no 5 = .ok (.lsub, 1) := by decide +kernel
theorem dX11_no_6 : decode cX11_no 6 = .ok (.lreturn, 1) := by decide +kernel
theorem dX11_lowest_0 : decode cX11_lowest 0 = .ok (.lload_n 0, 1) := by decide +kernel
theorem dX11_lowest_1 : decode cX11_lowest 1 = .ok (.lstore 5, 2) := by decide +kernel
theorem dX11_lowest_3 : decode cX11_lowest 3 = .ok (.lload_n 2, 1) := by decide +kernel
theorem dX11_lowest_4 : decode cX11_lowest 4 = .ok (.lstore 7, 2) := by decide +kernel
theorem dX11_lowest_6 : decode cX11_lowest 6 = .ok (.lload 7, 2) := by decide +kernel
theorem dX11_lowest_8 : decode cX11_lowest 8 = .ok (.lconst 0, 1) := by decide +kernel
theorem dX11_lowest_9 : decode cX11_lowest 9 = .ok (.lcmp, 1) := by decide +kernel
theorem dX11_lowest_10 : decode cX11_lowest 10 = .ok (.ifCond .eq 21, 3) := by decide +kernel
theorem dX11_lowest_13 : decode cX11_lowest 13 = .ok (.lload 5, 2) := by decide +kernel
theorem dX11_lowest_15 : decode cX11_lowest 15 = .ok (.lload 7, 2) := by decide +kernel
theorem dX11_lowest_17 : decode cX11_lowest 17 = .ok (.lrem, 1) := by decide +kernel
theorem dX11_lowest_18 : decode cX11_lowest 18 = .ok (.lstore 9, 2) := by decide +kernel
theorem dX11_lowest_20 : decode cX11_lowest 20 = .ok (.lload 7, 2) := by decide +kernel
theorem dX11_lowest_22 : decode cX11_lowest 22 = .ok (.lstore 5, 2) := by decide +kernel
theorem dX11_lowest_24 : decode cX11_lowest 24 = .ok (.lload 9, 2) := by decide +kernel
theorem dX11_lowest_26 : decode cX11_lowest 26 = .ok (.lstore 7, 2) := by decide +kernel
theorem dX11_lowest_28 : decode cX11_lowest 28 = .ok (.goto (-22), 3) := by decide +kernel
theorem dX11_lowest_31 : decode cX11_lowest 31 = .ok (.iload 4, 2) := by decide +kernel
theorem dX11_lowest_33 : decode cX11_lowest 33 = .ok (.ifCond .ne 10, 3) := by decide +kernel
theorem dX11_lowest_36 : decode cX11_lowest 36 = .ok (.lload_n 0, 1) := by decide +kernel
theorem dX11_lowest_37 : decode cX11_lowest 37 = .ok (.lload 5, 2) := by decide +kernel
theorem dX11_lowest_39 : decode cX11_lowest 39 = .ok (.ldiv, 1) := by decide +kernel
theorem dX11_lowest_40 : decode cX11_lowest 40 = .ok (.goto 7, 3) := by decide +kernel
theorem dX11_lowest_43 : decode cX11_lowest 43 = .ok (.lload_n 2, 1) := by decide +kernel
theorem dX11_lowest_44 : decode cX11_lowest 44 = .ok (.lload 5, 2) := by decide +kernel
theorem dX11_lowest_46 : decode cX11_lowest 46 = .ok (.ldiv, 1) := by decide +kernel
theorem dX11_lowest_47 : decode cX11_lowest 47 = .ok (.lreturn, 1) := by decide +kernel
theorem dX11_isText_0 : decode cX11_isText 0 = .ok (.iload_n 0, 1) := by decide +kernel
theorem dX11_isText_1 : decode cX11_isText 1 = .ok (.iconst 0, 1) := by decide +kernel
theorem dX11_isText_2 : decode cX11_isText 2 = .ok (.iconst 1, 1) := by decide +kernel
theorem dX11_isText_3 : decode cX11_isText 3 = .ok (.invokestatic 140, 3) := by decide +kernel
theorem dX11_isText_6 : decode cX11_isText 6 = .ok (.ireturn, 1) := by decide +kernel
theorem dX11_isMonth_0 : decode cX11_isMonth 0 = .ok (.iload_n 0, 1) := by decide +kernel
theorem dX11_isMonth_1 : decode cX11_isMonth 1 = .ok (.iconst 0, 1) := by decide +kernel
theorem dX11_isMonth_2 : decode cX11_isMonth 2 = .ok (.bipush 23, 2) := by decide +kernel
theorem dX11_isMonth_4 : decode cX11_isMonth 4 = .ok (.invokestatic 140, 3) := by decide +kernel
theorem dX11_isMonth_7 : decode cX11_isMonth 7 = .ok (.ireturn, 1) := by decide +kernel
theorem dX11_isCounty_0 : decode cX11_isCounty 0 = .ok (.iload_n 0, 1) := by decide +kernel
theorem dX11_isCounty_1 : decode cX11_isCounty 1 = .ok (.iconst 0, 1) := by decide +kernel
theorem dX11_isCounty_2 : decode cX11_isCounty 2 = .ok (.iconst 3, 1) := by decide +kernel
theorem dX11_isCounty_3 : decode cX11_isCounty 3 = .ok (.invokestatic 140, 3) := by decide +kernel
theorem dX11_isCounty_6 : decode cX11_isCounty 6 = .ok (.ireturn, 1) := by decide +kernel
theorem dX11_type_0 : decode cX11_type 0 = .ok (.iload_n 1, 1) := by decide +kernel
theorem dX11_type_1 : decode cX11_type 1 = .ok (.invokestatic 144, 3) := by decide +kernel
theorem dX11_type_4 : decode cX11_type 4 = .ok (.ifCond .eq 14, 3) := by decide +kernel
theorem dX11_type_7 : decode cX11_type 7 = .ok (.iload_n 2, 1) := by decide +kernel
theorem dX11_type_8 : decode cX11_type 8 = .ok (.iconst 0, 1) := by decide +kernel
theorem dX11_type_9 : decode cX11_type 9 = .ok (.sipush 255, 3) := by decide +kernel
theorem dX11_type_12 : decode cX11_type 12 = .ok (.invokestatic 140, 3) := by decide +kernel
theorem dX11_type_15 : decode cX11_type 15 = .ok (.ifCond .ne 6, 3) := by decide +kernel
theorem dX11_type_18 : decode cX11_type 18 = .ok (.bipush (-2), 2) := by decide +kernel
theorem dX11_type_20 : decode cX11_type 20 = .ok (.ireturn, 1) := by decide +kernel
theorem dX11_type_21 : decode cX11_type 21 = .ok (.aload_n 0, 1) := by decide +kernel
theorem dX11_type_22 : decode cX11_type 22 = .ok (.getfield 7, 3) := by decide +kernel
theorem dX11_type_25 : decode cX11_type 25 = .ok (.iload_n 1, 1) := by decide +kernel
theorem dX11_type_26 : decode cX11_type 26 = .ok (.iaload, 1) := by decide +kernel
theorem dX11_type_27 : decode cX11_type 27 = .ok (.iload_n 1, 1) := by decide +kernel
theorem dX11_type_28 : decode cX11_type 28 = .ok (.ifCond .ne 8, 3) := by decide +kernel
theorem dX11_type_31 : decode cX11_type 31 = .ok (.bipush 31, 2) := by decide +kernel
theorem dX11_type_33 : decode cX11_type 33 = .ok (.goto 5, 3) := by decide +kernel
theorem dX11_type_36 : decode cX11_type 36 = .ok (.bipush 39, 2) := by decide +kernel
theorem dX11_type_38 : decode cX11_type 38 = .ok (.if_icmp .ne 6, 3) := by decide +kernel
theorem dX11_type_41 : decode cX11_type 41 = .ok (.bipush (-4), 2) := by decide +kernel
theorem dX11_type_43 : decode cX11_type 43 = .ok (.ireturn, 1) := by decide +kernel
theorem dX11_type_44 : decode cX11_type 44 = .ok (.aload_n 0, 1) := by decide +kernel
theorem dX11_type_45 : decode cX11_type 45 = .ok (.getfield 13, 3) := by decide +kernel
theorem dX11_type_48 : decode cX11_type 48 = .ok (.bipush 39, 2) := by decide +kernel
theorem dX11_type_50 : decode cX11_type 50 = .ok (.iload_n 1, 1) := by decide +kernel
theorem dX11_type_51 : decode cX11_type 51 = .ok (.imul, 1) := by decide +kernel
theorem dX11_type_52 : decode cX11_type 52 = .ok (.aload_n 0, 1) := by decide +kernel
theorem dX11_type_53 : decode cX11_type 53 = .ok (.getfield 7, 3) := by decide +kernel
theorem dX11_type_56 : decode cX11_type 56 = .ok (.iload_n 1, 1) := by decide +kernel
theorem dX11_type_57 : decode cX11_type 57 = .ok (.iaload, 1) := by decide +kernel
theorem dX11_type_58 : decode cX11_type 58 = .ok (.iadd, 1) := by decide +kernel
theorem dX11_type_59 : decode cX11_type 59 = .ok (.iload_n 2, 1) := by decide +kernel
theorem dX11_type_60 : decode cX11_type 60 = .ok (.iastore, 1) := by decide +kernel
theorem dX11_type_61 : decode cX11_type 61 = .ok (.aload_n 0, 1) := by decide +kernel
theorem dX11_type_62 : decode cX11_type 62 = .ok (.getfield 7, 3) := by decide +kernel
theorem dX11_type_65 : decode cX11_type 65 = .ok (.iload_n 1, 1) := by decide +kernel
theorem dX11_type_66 : decode cX11_type 66 = .ok (.dup2, 1) := by decide +kernel
theorem dX11_type_67 : decode cX11_type 67 = .ok (.iaload, 1) := by decide +kernel
theorem dX11_type_68 : decode cX11_type 68 = .ok (.iconst 1, 1) := by decide +kernel
theorem dX11_type_69 : decode cX11_type 69 = .ok (.iadd, 1) := by decide +kernel
theorem dX11_type_70 : decode cX11_type 70 = .ok (.iastore, 1) := by decide +kernel
theorem dX11_type_71 : decode cX11_type 71 = .ok (.aload_n 0, 1) := by decide +kernel
theorem dX11_type_72 : decode cX11_type 72 = .ok (.getfield 7, 3) := by decide +kernel
theorem dX11_type_75 : decode cX11_type 75 = .ok (.iload_n 1, 1) := by decide +kernel
theorem dX11_type_76 : decode cX11_type 76 = .ok (.iaload, 1) := by decide +kernel
theorem dX11_type_77 : decode cX11_type 77 = .ok (.ireturn, 1) := by decide +kernel
theorem dX11_wipe_0 : decode cX11_wipe 0 = .ok (.iload_n 1, 1) := by decide +kernel
theorem dX11_wipe_1 : decode cX11_wipe 1 = .ok (.invokestatic 144, 3) := by decide +kernel
theorem dX11_wipe_4 : decode cX11_wipe 4 = .ok (.ifCond .ne 6, 3) := by decide +kernel
theorem dX11_wipe_7 : decode cX11_wipe 7 = .ok (.bipush (-2), 2) := by decide +kernel
theorem dX11_wipe_9 : decode cX11_wipe 9 = .ok (.ireturn, 1) := by decide +kernel
theorem dX11_wipe_10 : decode cX11_wipe 10 = .ok (.aload_n 0, 1) := by decide +kernel
theorem dX11_wipe_11 : decode cX11_wipe 11 = .ok (.getfield 7, 3) := by decide +kernel
theorem dX11_wipe_14 : decode cX11_wipe 14 = .ok (.iload_n 1, 1) := by decide +kernel
theorem dX11_wipe_15 : decode cX11_wipe 15 = .ok (.iaload, 1) := by decide +kernel
theorem dX11_wipe_16 : decode cX11_wipe 16 = .ok (.istore_n 2, 1) := by decide +kernel
theorem dX11_wipe_17 : decode cX11_wipe 17 = .ok (.aload_n 0, 1) := by decide +kernel
theorem dX11_wipe_18 : decode cX11_wipe 18 = .ok (.getfield 7, 3) := by decide +kernel
theorem dX11_wipe_21 : decode cX11_wipe 21 = .ok (.iload_n 1, 1) := by decide +kernel
theorem dX11_wipe_22 : decode cX11_wipe 22 = .ok (.iconst 0, 1) := by decide +kernel
theorem dX11_wipe_23 : decode cX11_wipe 23 = .ok (.iastore, 1) := by decide +kernel
theorem dX11_wipe_24 : decode cX11_wipe 24 = .ok (.iload_n 2, 1) := by decide +kernel
theorem dX11_wipe_25 : decode cX11_wipe 25 = .ok (.ireturn, 1) := by decide +kernel
theorem dX11_undo_0 : decode cX11_undo 0 = .ok (.iload_n 1, 1) := by decide +kernel
theorem dX11_undo_1 : decode cX11_undo 1 = .ok (.invokestatic 144, 3) := by decide +kernel
theorem dX11_undo_4 : decode cX11_undo 4 = .ok (.ifCond .ne 6, 3) := by decide +kernel
theorem dX11_undo_7 : decode cX11_undo 7 = .ok (.bipush (-2), 2) := by decide +kernel
theorem dX11_undo_9 : decode cX11_undo 9 = .ok (.ireturn, 1) := by decide +kernel
theorem dX11_undo_10 : decode cX11_undo 10 = .ok (.aload_n 0, 1) := by decide +kernel
theorem dX11_undo_11 : decode cX11_undo 11 = .ok (.getfield 7, 3) := by decide +kernel
theorem dX11_undo_14 : decode cX11_undo 14 = .ok (.iload_n 1, 1) := by decide +kernel
theorem dX11_undo_15 : decode cX11_undo 15 = .ok (.iaload, 1) := by decide +kernel
theorem dX11_undo_16 : decode cX11_undo 16 = .ok (.ifCond .ne 6, 3) := by decide +kernel
theorem dX11_undo_19 : decode cX11_undo 19 = .ok (.bipush (-3), 2) := by decide +kernel
theorem dX11_undo_21 : decode cX11_undo 21 = .ok (.ireturn, 1) := by decide +kernel
theorem dX11_undo_22 : decode cX11_undo 22 = .ok (.aload_n 0, 1) := by decide +kernel
theorem dX11_undo_23 : decode cX11_undo 23 = .ok (.getfield 7, 3) := by decide +kernel
theorem dX11_undo_26 : decode cX11_undo 26 = .ok (.iload_n 1, 1) := by decide +kernel
theorem dX11_undo_27 : decode cX11_undo 27 = .ok (.dup2, 1) := by decide +kernel
theorem dX11_undo_28 : decode cX11_undo 28 = .ok (.iaload, 1) := by decide +kernel
theorem dX11_undo_29 : decode cX11_undo 29 = .ok (.iconst 1, 1) := by decide +kernel
theorem dX11_undo_30 : decode cX11_undo 30 = .ok (.isub, 1) := by decide +kernel
theorem dX11_undo_31 : decode cX11_undo 31 = .ok (.iastore, 1) := by decide +kernel
theorem dX11_undo_32 : decode cX11_undo 32 = .ok (.aload_n 0, 1) := by decide +kernel
theorem dX11_undo_33 : decode cX11_undo 33 = .ok (.getfield 7, 3) := by decide +kernel
theorem dX11_undo_36 : decode cX11_undo 36 = .ok (.iload_n 1, 1) := by decide +kernel
theorem dX11_undo_37 : decode cX11_undo 37 = .ok (.iaload, 1) := by decide +kernel
theorem dX11_undo_38 : decode cX11_undo 38 = .ok (.ireturn, 1) := by decide +kernel
theorem dX11_byteAt_0 : decode cX11_byteAt 0 = .ok (.iload_n 2, 1) := by decide +kernel
theorem dX11_byteAt_1 : decode cX11_byteAt 1 = .ok (.aload_n 0, 1) := by decide +kernel
theorem dX11_byteAt_2 : decode cX11_byteAt 2 = .ok (.getfield 7, 3) := by decide +kernel
theorem dX11_byteAt_5 : decode cX11_byteAt 5 = .ok (.iload_n 1, 1) := by decide +kernel
theorem dX11_byteAt_6 : decode cX11_byteAt 6 = .ok (.iaload, 1) := by decide +kernel
theorem dX11_byteAt_7 : decode cX11_byteAt 7 = .ok (.if_icmp .ge 17, 3) := by decide +kernel
theorem dX11_byteAt_10 : decode cX11_byteAt 10 = .ok (.aload_n 0, 1) := by decide +kernel
theorem dX11_byteAt_11 : decode cX11_byteAt 11 = .ok (.getfield 13, 3) := by decide +kernel
theorem dX11_byteAt_14 : decode cX11_byteAt 14 = .ok (.bipush 39, 2) := by decide +kernel
theorem dX11_byteAt_16 : decode cX11_byteAt 16 = .ok (.iload_n 1, 1) := by decide +kernel
theorem dX11_byteAt_17 : decode cX11_byteAt 17 = .ok (.imul, 1) := by decide +kernel
theorem dX11_byteAt_18 : decode cX11_byteAt 18 = .ok (.iload_n 2, 1) := by decide +kernel
theorem dX11_byteAt_19 : decode cX11_byteAt 19 = .ok (.iadd, 1) := by decide +kernel
theorem dX11_byteAt_20 : decode cX11_byteAt 20 = .ok (.iaload, 1) := by decide +kernel
theorem dX11_byteAt_21 : decode cX11_byteAt 21 = .ok (.goto 4, 3) := by decide +kernel
theorem dX11_byteAt_24 : decode cX11_byteAt 24 = .ok (.iconst (-1), 1) := by decide +kernel
theorem dX11_byteAt_25 : decode cX11_byteAt 25 = .ok (.ireturn, 1) := by decide +kernel
theorem dX11_readsPerson_0 : decode cX11_readsPerson 0 = .ok (.aload_n 0, 1) := by decide +kernel
theorem dX11_readsPerson_1 : decode cX11_readsPerson 1 = .ok (.iconst 0, 1) := by decide +kernel
theorem dX11_readsPerson_2 : decode cX11_readsPerson 2 = .ok (.iload_n 2, 1) := by decide +kernel
theorem dX11_readsPerson_3 : decode cX11_readsPerson 3 = .ok (.invokevirtual 148, 3) := by decide +kernel
theorem dX11_readsPerson_6 : decode cX11_readsPerson 6 = .ok (.istore_n 3, 1) := by decide +kernel
theorem dX11_readsPerson_7 : decode cX11_readsPerson 7 = .ok (.iload_n 3, 1) := by decide +kernel
theorem dX11_readsPerson_8 : decode cX11_readsPerson 8 = .ok (.bipush 102, 2) := by decide +kernel
theorem dX11_readsPerson_10 : decode cX11_readsPerson 10 = .ok (.if_icmp .ne 7, 3) := by decide +kernel
theorem dX11_readsPerson_13 : decode cX11_readsPerson 13 = .ok (.iconst 0, 1) := by decide +kernel
theorem dX11_readsPerson_14 : decode cX11_readsPerson 14 = .ok (.goto 24, 3) := by decide +kernel
theorem dX11_readsPerson_17 : decode cX11_readsPerson 17 = .ok (.iload_n 3, 1) := by decide +kernel
theorem dX11_readsPerson_18 : decode cX11_readsPerson 18 = .ok (.bipush 99, 2) := by decide +kernel
theorem dX11_readsPerson_20 : decode cX11_readsPerson 20 = .ok (.if_icmp .ne 7, 3) := by decide +kernel
theorem dX11_readsPerson_23 : decode cX11_readsPerson 23 = .ok (.iconst 1, 1) := by decide +kernel
theorem dX11_readsPerson_24 : decode cX11_readsPerson 24 = .ok (.goto 14, 3) := by decide +kernel
theorem dX11_readsPerson_27 : decode cX11_readsPerson 27 = .ok (.iload_n 3, 1) := by decide +kernel
theorem dX11_readsPerson_28 : decode cX11_readsPerson 28 = .ok (.bipush 104, 2) := by decide +kernel
theorem dX11_readsPerson_30 : decode cX11_readsPerson 30 = .ok (.if_icmp .ne 7, 3) := by decide +kernel
theorem dX11_readsPerson_33 : decode cX11_readsPerson 33 = .ok (.iconst 2, 1) := by decide +kernel
theorem dX11_readsPerson_34 : decode cX11_readsPerson 34 = .ok (.goto 4, 3) := by decide +kernel
theorem dX11_readsPerson_37 : decode cX11_readsPerson 37 = .ok (.iconst (-1), 1) := by decide +kernel
theorem dX11_readsPerson_38 : decode cX11_readsPerson 38 = .ok (.istore 4, 2) := by decide +kernel
theorem dX11_readsPerson_40 : decode cX11_readsPerson 40 = .ok (.aload_n 0, 1) := by decide +kernel
theorem dX11_readsPerson_41 : decode cX11_readsPerson 41 = .ok (.iconst 0, 1) := by decide +kernel
theorem dX11_readsPerson_42 : decode cX11_readsPerson 42 = .ok (.iload_n 2, 1) := by decide +kernel
theorem dX11_readsPerson_43 : decode cX11_readsPerson 43 = .ok (.iconst 1, 1) := by decide +kernel
theorem dX11_readsPerson_44 : decode cX11_readsPerson 44 = .ok (.iadd, 1) := by decide +kernel
theorem dX11_readsPerson_45 : decode cX11_readsPerson 45 = .ok (.invokevirtual 148, 3) := by decide +kernel
theorem dX11_readsPerson_48 : decode cX11_readsPerson 48 = .ok (.bipush 48, 2) := by decide +kernel
theorem dX11_readsPerson_50 : decode cX11_readsPerson 50 = .ok (.isub, 1) := by decide +kernel
theorem dX11_readsPerson_51 : decode cX11_readsPerson 51 = .ok (.istore 5, 2) := by decide +kernel
theorem dX11_readsPerson_53 : decode cX11_readsPerson 53 = .ok (.aload_n 0, 1) := by decide +kernel
theorem dX11_readsPerson_54 : decode cX11_readsPerson 54 = .ok (.iconst 0, 1) := by decide +kernel
theorem dX11_readsPerson_55 : decode cX11_readsPerson 55 = .ok (.iload_n 2, 1) := by decide +kernel
theorem dX11_readsPerson_56 : decode cX11_readsPerson 56 = .ok (.iconst 2, 1) := by decide +kernel
theorem dX11_readsPerson_57 : decode cX11_readsPerson 57 = .ok (.iadd, 1) := by decide +kernel
theorem dX11_readsPerson_58 : decode cX11_readsPerson 58 = .ok (.invokevirtual 148, 3) := by decide +kernel
theorem dX11_readsPerson_61 : decode cX11_readsPerson 61 = .ok (.bipush 48, 2) := by decide +kernel
theorem dX11_readsPerson_63 : decode cX11_readsPerson 63 = .ok (.isub, 1) := by decide +kernel
theorem dX11_readsPerson_64 : decode cX11_readsPerson 64 = .ok (.istore 6, 2) := by decide +kernel
theorem dX11_readsPerson_66 : decode cX11_readsPerson 66 = .ok (.iload 4, 2) := by decide +kernel
theorem dX11_readsPerson_68 : decode cX11_readsPerson 68 = .ok (.iconst (-1), 1) := by decide +kernel
theorem dX11_readsPerson_69 : decode cX11_readsPerson 69 = .ok (.if_icmp .ne 5, 3) := by decide +kernel
theorem dX11_readsPerson_72 : decode cX11_readsPerson 72 = .ok (.iconst 0, 1) := by decide +kernel
theorem dX11_readsPerson_73 : decode cX11_readsPerson 73 = .ok (.ireturn, 1) := by decide +kernel
theorem dX11_readsPerson_74 : decode cX11_readsPerson 74 = .ok (.iload 5, 2) := by decide +kernel
theorem dX11_readsPerson_76 : decode cX11_readsPerson 76 = .ok (.iconst 0, 1) := by decide +kernel
theorem dX11_readsPerson_77 : decode cX11_readsPerson 77 = .ok (.iconst 3, 1) := by decide +kernel
theorem dX11_readsPerson_78 : decode cX11_readsPerson 78 = .ok (.invokestatic 140, 3) := by decide +kernel
theorem dX11_readsPerson_81 : decode cX11_readsPerson 81 = .ok (.ifCond .ne 5, 3) := by decide +kernel
theorem dX11_readsPerson_84 : decode cX11_readsPerson 84 = .ok (.iconst 1, 1) := by decide +kernel
theorem dX11_readsPerson_85 : decode cX11_readsPerson 85 = .ok (.ireturn, 1) := by decide +kernel
theorem dX11_readsPerson_86 : decode cX11_readsPerson 86 = .ok (.iload 6, 2) := by decide +kernel
theorem dX11_readsPerson_88 : decode cX11_readsPerson 88 = .ok (.iconst 0, 1) := by decide +kernel
theorem dX11_readsPerson_89 : decode cX11_readsPerson 89 = .ok (.bipush 9, 2) := by decide +kernel
theorem dX11_readsPerson_91 : decode cX11_readsPerson 91 = .ok (.invokestatic 140, 3) := by decide +kernel
theorem dX11_readsPerson_94 : decode cX11_readsPerson 94 = .ok (.ifCond .ne 5, 3) := by decide +kernel
theorem dX11_readsPerson_97 : decode cX11_readsPerson 97 = .ok (.iconst 2, 1) := by decide +kernel
theorem dX11_readsPerson_98 : decode cX11_readsPerson 98 = .ok (.ireturn, 1) := by decide +kernel
theorem dX11_readsPerson_99 : decode cX11_readsPerson 99 = .ok (.aload_n 0, 1) := by decide +kernel
theorem dX11_readsPerson_100 : decode cX11_readsPerson 100 = .ok (.getfield 16, 3) := by decide +kernel
theorem dX11_readsPerson_103 : decode cX11_readsPerson 103 = .ok (.iload_n 1, 1) := by decide +kernel
theorem dX11_readsPerson_104 : decode cX11_readsPerson 104 = .ok (.iload 4, 2) := by decide +kernel
theorem dX11_readsPerson_106 : decode cX11_readsPerson 106 = .ok (.iastore, 1) := by decide +kernel
theorem dX11_readsPerson_107 : decode cX11_readsPerson 107 = .ok (.aload_n 0, 1) := by decide +kernel
theorem dX11_readsPerson_108 : decode cX11_readsPerson 108 = .ok (.getfield 19, 3) := by decide +kernel
theorem dX11_readsPerson_111 : decode cX11_readsPerson 111 = .ok (.iload_n 1, 1) := by decide +kernel
theorem dX11_readsPerson_112 : decode cX11_readsPerson 112 = .ok (.iload 5, 2) := by decide +kernel
theorem dX11_readsPerson_114 : decode cX11_readsPerson 114 = .ok (.iastore, 1) := by decide +kernel
theorem dX11_readsPerson_115 : decode cX11_readsPerson 115 = .ok (.aload_n 0, 1) := by decide +kernel
theorem dX11_readsPerson_116 : decode cX11_readsPerson 116 = .ok (.getfield 22, 3) := by decide +kernel
theorem dX11_readsPerson_119 : decode cX11_readsPerson 119 = .ok (.iload_n 1, 1) := by decide +kernel
theorem dX11_readsPerson_120 : decode cX11_readsPerson 120 = .ok (.iload 6, 2) := by decide +kernel
theorem dX11_readsPerson_122 : decode cX11_readsPerson 122 = .ok (.iastore, 1) := by decide +kernel
theorem dX11_readsPerson_123 : decode cX11_readsPerson 123 = .ok (.iconst 3, 1) := by decide +kernel
theorem dX11_readsPerson_124 : decode cX11_readsPerson 124 = .ok (.ireturn, 1) := by decide +kernel
theorem dX11_readsDeed_0 : decode cX11_readsDeed 0 = .ok (.aload_n 0, 1) := by decide +kernel
theorem dX11_readsDeed_1 : decode cX11_readsDeed 1 = .ok (.iconst 1, 1) := by decide +kernel
theorem dX11_readsDeed_2 : decode cX11_readsDeed 2 = .ok (.iload_n 2, 1) := by decide +kernel
theorem dX11_readsDeed_3 : decode cX11_readsDeed 3 = .ok (.invokevirtual 148, 3) := by decide +kernel
theorem dX11_readsDeed_6 : decode cX11_readsDeed 6 = .ok (.bipush 97, 2) := by decide +kernel
theorem dX11_readsDeed_8 : decode cX11_readsDeed 8 = .ok (.isub, 1) := by decide +kernel
theorem dX11_readsDeed_9 : decode cX11_readsDeed 9 = .ok (.istore_n 3, 1) := by decide +kernel
theorem dX11_readsDeed_10 : decode cX11_readsDeed 10 = .ok (.aload_n 0, 1) := by decide +kernel
theorem dX11_readsDeed_11 : decode cX11_readsDeed 11 = .ok (.iconst 1, 1) := by decide +kernel
theorem dX11_readsDeed_12 : decode cX11_readsDeed 12 = .ok (.iload_n 2, 1) := by decide +kernel
theorem dX11_readsDeed_13 : decode cX11_readsDeed 13 = .ok (.iconst 1, 1) := by decide +kernel
theorem dX11_readsDeed_14 : decode cX11_readsDeed 14 = .ok (.iadd, 1) := by decide +kernel
theorem dX11_readsDeed_15 : decode cX11_readsDeed 15 = .ok (.invokevirtual 148, 3) := by decide +kernel
theorem dX11_readsDeed_18 : decode cX11_readsDeed 18 = .ok (.bipush 48, 2) := by decide +kernel
theorem dX11_readsDeed_20 : decode cX11_readsDeed 20 = .ok (.isub, 1) := by decide +kernel
theorem dX11_readsDeed_21 : decode cX11_readsDeed 21 = .ok (.istore 4, 2) := by decide +kernel
theorem dX11_readsDeed_23 : decode cX11_readsDeed 23 = .ok (.aload_n 0, 1) := by decide +kernel
theorem dX11_readsDeed_24 : decode cX11_readsDeed 24 = .ok (.iconst 1, 1) := by decide +kernel
theorem dX11_readsDeed_25 : decode cX11_readsDeed 25 = .ok (.iload_n 2, 1) := by decide +kernel
theorem dX11_readsDeed_26 : decode cX11_readsDeed 26 = .ok (.iconst 2, 1) := by decide +kernel
theorem dX11_readsDeed_27 : decode cX11_readsDeed 27 = .ok (.iadd, 1) := by decide +kernel
theorem dX11_readsDeed_28 : decode cX11_readsDeed 28 = .ok (.invokevirtual 148, 3) := by decide +kernel
theorem dX11_readsDeed_31 : decode cX11_readsDeed 31 = .ok (.istore 5, 2) := by decide +kernel
theorem dX11_readsDeed_33 : decode cX11_readsDeed 33 = .ok (.iload 5, 2) := by decide +kernel
theorem dX11_readsDeed_35 : decode cX11_readsDeed 35 = .ok (.bipush 108, 2) := by decide +kernel
theorem dX11_readsDeed_37 : decode cX11_readsDeed 37 = .ok (.if_icmp .ne 7, 3) := by decide +kernel
theorem dX11_readsDeed_40 : decode cX11_readsDeed 40 = .ok (.iconst 0, 1) := by decide +kernel
theorem dX11_readsDeed_41 : decode cX11_readsDeed 41 = .ok (.goto 37, 3) := by decide +kernel
theorem dX11_readsDeed_44 : decode cX11_readsDeed 44 = .ok (.iload 5, 2) := by decide +kernel
theorem dX11_readsDeed_46 : decode cX11_readsDeed 46 = .ok (.bipush 101, 2) := by decide +kernel
theorem dX11_readsDeed_48 : decode cX11_readsDeed 48 = .ok (.if_icmp .ne 7, 3) := by decide +kernel
theorem dX11_readsDeed_51 : decode cX11_readsDeed 51 = .ok (.iconst 1, 1) := by decide +kernel
theorem dX11_readsDeed_52 : decode cX11_readsDeed 52 = .ok (.goto 26, 3) := by decide +kernel
theorem dX11_readsDeed_55 : decode cX11_readsDeed 55 = .ok (.iload 5, 2) := by decide +kernel
theorem dX11_readsDeed_57 : decode cX11_readsDeed 57 = .ok (.bipush 116, 2) := by decide +kernel
theorem dX11_readsDeed_59 : decode cX11_readsDeed 59 = .ok (.if_icmp .ne 7, 3) := by decide +kernel
theorem dX11_readsDeed_62 : decode cX11_readsDeed 62 = .ok (.iconst 2, 1) := by decide +kernel
theorem dX11_readsDeed_63 : decode cX11_readsDeed 63 = .ok (.goto 15, 3) := by decide +kernel
theorem dX11_readsDeed_66 : decode cX11_readsDeed 66 = .ok (.iload 5, 2) := by decide +kernel
theorem dX11_readsDeed_68 : decode cX11_readsDeed 68 = .ok (.bipush 109, 2) := by decide +kernel
theorem dX11_readsDeed_70 : decode cX11_readsDeed 70 = .ok (.if_icmp .ne 7, 3) := by decide +kernel
theorem dX11_readsDeed_73 : decode cX11_readsDeed 73 = .ok (.iconst 3, 1) := by decide +kernel
theorem dX11_readsDeed_74 : decode cX11_readsDeed 74 = .ok (.goto 4, 3) := by decide +kernel
theorem dX11_readsDeed_77 : decode cX11_readsDeed 77 = .ok (.iconst (-1), 1) := by decide +kernel
theorem dX11_readsDeed_78 : decode cX11_readsDeed 78 = .ok (.istore 6, 2) := by decide +kernel
theorem dX11_readsDeed_80 : decode cX11_readsDeed 80 = .ok (.iload_n 3, 1) := by decide +kernel
theorem dX11_readsDeed_81 : decode cX11_readsDeed 81 = .ok (.iconst 0, 1) := by decide +kernel
theorem dX11_readsDeed_82 : decode cX11_readsDeed 82 = .ok (.bipush 23, 2) := by decide +kernel
theorem dX11_readsDeed_84 : decode cX11_readsDeed 84 = .ok (.invokestatic 140, 3) := by decide +kernel
theorem dX11_readsDeed_87 : decode cX11_readsDeed 87 = .ok (.ifCond .ne 5, 3) := by decide +kernel
theorem dX11_readsDeed_90 : decode cX11_readsDeed 90 = .ok (.iconst 0, 1) := by decide +kernel
theorem dX11_readsDeed_91 : decode cX11_readsDeed 91 = .ok (.ireturn, 1) := by decide +kernel
theorem dX11_readsDeed_92 : decode cX11_readsDeed 92 = .ok (.iload 4, 2) := by decide +kernel
theorem dX11_readsDeed_94 : decode cX11_readsDeed 94 = .ok (.iconst 0, 1) := by decide +kernel
theorem dX11_readsDeed_95 : decode cX11_readsDeed 95 = .ok (.bipush 7, 2) := by decide +kernel
theorem dX11_readsDeed_97 : decode cX11_readsDeed 97 = .ok (.invokestatic 140, 3) := by decide +kernel
theorem dX11_readsDeed_100 : decode cX11_readsDeed 100 = .ok (.ifCond .ne 5, 3) := by decide +kernel
theorem dX11_readsDeed_103 : decode cX11_readsDeed 103 = .ok (.iconst 1, 1) := by decide +kernel
theorem dX11_readsDeed_104 : decode cX11_readsDeed 104 = .ok (.ireturn, 1) := by decide +kernel
theorem dX11_readsDeed_105 : decode cX11_readsDeed 105 = .ok (.iload 6, 2) := by decide +kernel
theorem dX11_readsDeed_107 : decode cX11_readsDeed 107 = .ok (.iconst (-1), 1) := by decide +kernel
theorem dX11_readsDeed_108 : decode cX11_readsDeed 108 = .ok (.if_icmp .ne 5, 3) := by decide +kernel
theorem dX11_readsDeed_111 : decode cX11_readsDeed 111 = .ok (.iconst 2, 1) := by decide +kernel
theorem dX11_readsDeed_112 : decode cX11_readsDeed 112 = .ok (.ireturn, 1) := by decide +kernel
theorem dX11_readsDeed_113 : decode cX11_readsDeed 113 = .ok (.aload_n 0, 1) := by decide +kernel
theorem dX11_readsDeed_114 : decode cX11_readsDeed 114 = .ok (.getfield 25, 3) := by decide +kernel
theorem dX11_readsDeed_117 : decode cX11_readsDeed 117 = .ok (.iload_n 1, 1) := by decide +kernel
theorem dX11_readsDeed_118 : decode cX11_readsDeed 118 = .ok (.iload_n 3, 1) := by decide +kernel
theorem dX11_readsDeed_119 : decode cX11_readsDeed 119 = .ok (.iastore, 1) := by decide +kernel
theorem dX11_readsDeed_120 : decode cX11_readsDeed 120 = .ok (.aload_n 0, 1) := by decide +kernel
theorem dX11_readsDeed_121 : decode cX11_readsDeed 121 = .ok (.getfield 28, 3) := by decide +kernel
theorem dX11_readsDeed_124 : decode cX11_readsDeed 124 = .ok (.iload_n 1, 1) := by decide +kernel
theorem dX11_readsDeed_125 : decode cX11_readsDeed 125 = .ok (.iload 4, 2) := by decide +kernel
theorem dX11_readsDeed_127 : decode cX11_readsDeed 127 = .ok (.iastore, 1) := by decide +kernel
theorem dX11_readsDeed_128 : decode cX11_readsDeed 128 = .ok (.aload_n 0, 1) := by decide +kernel
theorem dX11_readsDeed_129 : decode cX11_readsDeed 129 = .ok (.getfield 31, 3) := by decide +kernel
theorem dX11_readsDeed_132 : decode cX11_readsDeed 132 = .ok (.iload_n 1, 1) := by decide +kernel
theorem dX11_readsDeed_133 : decode cX11_readsDeed 133 = .ok (.iload 6, 2) := by decide +kernel
theorem dX11_readsDeed_135 : decode cX11_readsDeed 135 = .ok (.iastore, 1) := by decide +kernel
theorem dX11_readsDeed_136 : decode cX11_readsDeed 136 = .ok (.iconst 3, 1) := by decide +kernel
theorem dX11_readsDeed_137 : decode cX11_readsDeed 137 = .ok (.ireturn, 1) := by decide +kernel
theorem dX11_readsParts_0 : decode cX11_readsParts 0 = .ok (.iload_n 1, 1) := by decide +kernel
theorem dX11_readsParts_1 : decode cX11_readsParts 1 = .ok (.ifCond .ne 8, 3) := by decide +kernel
theorem dX11_readsParts_4 : decode cX11_readsParts 4 = .ok (.bipush 8, 2) := by decide +kernel
theorem dX11_readsParts_6 : decode cX11_readsParts 6 = .ok (.goto 5, 3) := by decide +kernel
theorem dX11_readsParts_9 : decode cX11_readsParts 9 = .ok (.bipush 10, 2) := by decide +kernel
theorem dX11_readsParts_11 : decode cX11_readsParts 11 = .ok (.istore_n 2, 1) := by decide +kernel
theorem dX11_readsParts_12 : decode cX11_readsParts 12 = .ok (.iconst 0, 1) := by decide +kernel
theorem dX11_readsParts_13 : decode cX11_readsParts 13 = .ok (.istore_n 3, 1) := by decide +kernel
theorem dX11_readsParts_14 : decode cX11_readsParts 14 = .ok (.iconst 0, 1) := by decide +kernel
theorem dX11_readsParts_15 : decode cX11_readsParts 15 = .ok (.istore 4, 2) := by decide +kernel
theorem dX11_readsParts_17 : decode cX11_readsParts 17 = .ok (.aload_n 0, 1) := by decide +kernel
theorem dX11_readsParts_18 : decode cX11_readsParts 18 = .ok (.iload_n 1, 1) := by decide +kernel
theorem dX11_readsParts_19 : decode cX11_readsParts 19 = .ok (.ifCond .ne 7, 3) := by decide +kernel
theorem dX11_readsParts_22 : decode cX11_readsParts 22 = .ok (.iconst 0, 1) := by decide +kernel
theorem dX11_readsParts_23 : decode cX11_readsParts 23 = .ok (.goto 7, 3) := by decide +kernel
theorem dX11_readsParts_26 : decode cX11_readsParts 26 = .ok (.aload_n 0, 1) := by decide +kernel
theorem dX11_readsParts_27 : decode cX11_readsParts 27 = .ok (.getfield 152, 3) := by decide +kernel
theorem dX11_readsParts_30 : decode cX11_readsParts 30 = .ok (.putfield 152, 3) := by decide +kernel
theorem dX11_readsParts_33 : decode cX11_readsParts 33 = .ok (.aload_n 0, 1) := by decide +kernel
theorem dX11_readsParts_34 : decode cX11_readsParts 34 = .ok (.iload_n 1, 1) := by decide +kernel
theorem dX11_readsParts_35 : decode cX11_readsParts 35 = .ok (.iconst 1, 1) := by decide +kernel
theorem dX11_readsParts_36 : decode cX11_readsParts 36 = .ok (.if_icmp .ne 7, 3) := by decide +kernel
theorem dX11_readsParts_39 : decode cX11_readsParts 39 = .ok (.iconst 0, 1) := by decide +kernel
theorem dX11_readsParts_40 : decode cX11_readsParts 40 = .ok (.goto 7, 3) := by decide +kernel
theorem dX11_readsParts_43 : decode cX11_readsParts 43 = .ok (.aload_n 0, 1) := by decide +kernel
theorem dX11_readsParts_44 : decode cX11_readsParts 44 = .ok (.getfield 155, 3) := by decide +kernel
theorem dX11_readsParts_47 : decode cX11_readsParts 47 = .ok (.putfield 155, 3) := by decide +kernel
theorem dX11_readsParts_50 : decode cX11_readsParts 50 = .ok (.iload 4, 2) := by decide +kernel
theorem dX11_readsParts_52 : decode cX11_readsParts 52 = .ok (.aload_n 0, 1) := by decide +kernel
theorem dX11_readsParts_53 : decode cX11_readsParts 53 = .ok (.getfield 7, 3) := by decide +kernel
theorem dX11_readsParts_56 : decode cX11_readsParts 56 = .ok (.iload_n 1, 1) := by decide +kernel
theorem dX11_readsParts_57 : decode cX11_readsParts 57 = .ok (.iaload, 1) := by decide +kernel
theorem dX11_readsParts_58 : decode cX11_readsParts 58 = .ok (.if_icmp .lt 8, 3) := by decide +kernel
theorem dX11_readsParts_61 : decode cX11_readsParts 61 = .ok (.iload 4, 2) := by decide +kernel
theorem dX11_readsParts_63 : decode cX11_readsParts 63 = .ok (.ifCond .le 120, 3) := by decide +kernel
theorem dX11_readsParts_66 : decode cX11_readsParts 66 = .ok (.iload_n 3, 1) := by decide +kernel
theorem dX11_readsParts_67 : decode cX11_readsParts 67 = .ok (.iload_n 2, 1) := by decide +kernel
theorem dX11_readsParts_68 : decode cX11_readsParts 68 = .ok (.if_icmp .ne 7, 3) := by decide +kernel
theorem dX11_readsParts_71 : decode cX11_readsParts 71 = .ok (.iconst 0, 1) := by decide +kernel
theorem dX11_readsParts_72 : decode cX11_readsParts 72 = .ok (.goto 24, 3) := by decide +kernel
theorem dX11_readsParts_75 : decode cX11_readsParts 75 = .ok (.iload_n 1, 1) := by decide +kernel
theorem dX11_readsParts_76 : decode cX11_readsParts 76 = .ok (.ifCond .ne 13, 3) := by decide +kernel
theorem dX11_readsParts_79 : decode cX11_readsParts 79 = .ok (.aload_n 0, 1) := by decide +kernel
theorem dX11_readsParts_80 : decode cX11_readsParts 80 = .ok (.iload_n 3, 1) := by decide +kernel
theorem dX11_readsParts_81 : decode cX11_readsParts 81 = .ok (.iload 4, 2) := by decide +kernel
theorem dX11_readsParts_83 : decode cX11_readsParts 83 = .ok (.invokevirtual 158, 3) := by decide +kernel
theorem dX11_readsParts_86 : decode cX11_readsParts 86 = .ok (.goto 10, 3) := by decide +kernel
theorem dX11_readsParts_89 : decode cX11_readsParts 89 = .ok (.aload_n 0, 1) := by decide +kernel
theorem dX11_readsParts_90 : decode cX11_readsParts 90 = .ok (.iload_n 3, 1) := by decide +kernel
theorem dX11_readsParts_91 : decode cX11_readsParts 91 = .ok (.iload 4, 2) := by decide +kernel
theorem dX11_readsParts_93 : decode cX11_readsParts 93 = .ok (.invokevirtual 161, 3) := by decide +kernel
theorem dX11_readsParts_96 : decode cX11_readsParts 96 = .ok (.istore 5, 2) := by decide +kernel
theorem dX11_readsParts_98 : decode cX11_readsParts 98 = .ok (.iload 5, 2) := by decide +kernel
theorem dX11_readsParts_100 : decode cX11_readsParts 100 = .ok (.iconst 3, 1) := by decide +kernel
theorem dX11_readsParts_101 : decode cX11_readsParts 101 = .ok (.if_icmp .ge 9, 3) := by decide +kernel
theorem dX11_readsParts_104 : decode cX11_readsParts 104 = .ok (.iload 4, 2) := by decide +kernel
theorem dX11_readsParts_106 : decode cX11_readsParts 106 = .ok (.iload 5, 2) := by decide +kernel
theorem dX11_readsParts_108 : decode cX11_readsParts 108 = .ok (.iadd, 1) := by decide +kernel
theorem dX11_readsParts_109 : decode cX11_readsParts 109 = .ok (.ireturn, 1) := by decide +kernel
theorem dX11_readsParts_110 : decode cX11_readsParts 110 = .ok (.iinc 3 1, 3) := by decide +kernel
theorem dX11_readsParts_113 : decode cX11_readsParts 113 = .ok (.iinc 4 3, 3) := by decide +kernel
theorem dX11_readsParts_116 : decode cX11_readsParts 116 = .ok (.iload 4, 2) := by decide +kernel
theorem dX11_readsParts_118 : decode cX11_readsParts 118 = .ok (.aload_n 0, 1) := by decide +kernel
theorem dX11_readsParts_119 : decode cX11_readsParts 119 = .ok (.getfield 7, 3) := by decide +kernel
theorem dX11_readsParts_122 : decode cX11_readsParts 122 = .ok (.iload_n 1, 1) := by decide +kernel
theorem dX11_readsParts_123 : decode cX11_readsParts 123 = .ok (.iaload, 1) := by decide +kernel
theorem dX11_readsParts_124 : decode cX11_readsParts 124 = .ok (.if_icmp .ne 38, 3) := by decide +kernel
theorem dX11_readsParts_127 : decode cX11_readsParts 127 = .ok (.aload_n 0, 1) := by decide +kernel
theorem dX11_readsParts_128 : decode cX11_readsParts 128 = .ok (.iload_n 1, 1) := by decide +kernel
theorem dX11_readsParts_129 : decode cX11_readsParts 129 = .ok (.ifCond .ne 7, 3) := by decide +kernel
theorem dX11_readsParts_132 : decode cX11_readsParts 132 = .ok (.iload_n 3, 1) := by decide +kernel
theorem dX11_readsParts_133 : decode cX11_readsParts 133 = .ok (.goto 7, 3) := by decide +kernel
theorem dX11_readsParts_136 : decode cX11_readsParts 136 = .ok (.aload_n 0, 1) := by decide +kernel
theorem dX11_readsParts_137 : decode cX11_readsParts 137 = .ok (.getfield 152, 3) := by decide +kernel
theorem dX11_readsParts_140 : decode cX11_readsParts 140 = .ok (.putfield 152, 3) := by decide +kernel
theorem dX11_readsParts_143 : decode cX11_readsParts 143 = .ok (.aload_n 0, 1) := by decide +kernel
theorem dX11_readsParts_144 : decode cX11_readsParts 144 = .ok (.iload_n 1, 1) := by decide +kernel
theorem dX11_readsParts_145 : decode cX11_readsParts 145 = .ok (.iconst 1, 1) := by decide +kernel
theorem dX11_readsParts_146 : decode cX11_readsParts 146 = .ok (.if_icmp .ne 7, 3) := by decide +kernel
theorem dX11_readsParts_149 : decode cX11_readsParts 149 = .ok (.iload_n 3, 1) := by decide +kernel
theorem dX11_readsParts_150 : decode cX11_readsParts 150 = .ok (.goto 7, 3) := by decide +kernel
theorem dX11_readsParts_153 : decode cX11_readsParts 153 = .ok (.aload_n 0, 1) := by decide +kernel
theorem dX11_readsParts_154 : decode cX11_readsParts 154 = .ok (.getfield 155, 3) := by decide +kernel
theorem dX11_readsParts_157 : decode cX11_readsParts 157 = .ok (.putfield 155, 3) := by decide +kernel
theorem dX11_readsParts_160 : decode cX11_readsParts 160 = .ok (.iconst (-1), 1) := by decide +kernel
theorem dX11_readsParts_161 : decode cX11_readsParts 161 = .ok (.ireturn, 1) := by decide +kernel
theorem dX11_readsParts_162 : decode cX11_readsParts 162 = .ok (.aload_n 0, 1) := by decide +kernel
theorem dX11_readsParts_163 : decode cX11_readsParts 163 = .ok (.iload_n 1, 1) := by decide +kernel
theorem dX11_readsParts_164 : decode cX11_readsParts 164 = .ok (.iload 4, 2) := by decide +kernel
theorem dX11_readsParts_166 : decode cX11_readsParts 166 = .ok (.invokevirtual 148, 3) := by decide +kernel
theorem dX11_readsParts_169 : decode cX11_readsParts 169 = .ok (.bipush 59, 2) := by decide +kernel
theorem dX11_readsParts_171 : decode cX11_readsParts 171 = .ok (.if_icmp .eq 6, 3) := by decide +kernel
theorem dX11_readsParts_174 : decode cX11_readsParts 174 = .ok (.iload 4, 2) := by decide +kernel
theorem dX11_readsParts_176 : decode cX11_readsParts 176 = .ok (.ireturn, 1) := by decide +kernel
theorem dX11_readsParts_177 : decode cX11_readsParts 177 = .ok (.iinc 4 1, 3) := by decide +kernel
theorem dX11_readsParts_180 : decode cX11_readsParts 180 = .ok (.goto (-130), 3) := by decide +kernel
theorem dX11_readsParts_183 : decode cX11_readsParts 183 = .ok (.iconst (-1), 1) := by decide +kernel
theorem dX11_readsParts_184 : decode cX11_readsParts 184 = .ok (.ireturn, 1) := by decide +kernel
theorem dX11_faultOf_0 : decode cX11_faultOf 0 = .ok (.aload_n 0, 1) := by decide +kernel
theorem dX11_faultOf_1 : decode cX11_faultOf 1 = .ok (.iconst 0, 1) := by decide +kernel
theorem dX11_faultOf_2 : decode cX11_faultOf 2 = .ok (.invokevirtual 164, 3) := by decide +kernel
theorem dX11_faultOf_5 : decode cX11_faultOf 5 = .ok (.istore_n 2, 1) := by decide +kernel
theorem dX11_faultOf_6 : decode cX11_faultOf 6 = .ok (.aload_n 0, 1) := by decide +kernel
theorem dX11_faultOf_7 : decode cX11_faultOf 7 = .ok (.iconst 1, 1) := by decide +kernel
theorem dX11_faultOf_8 : decode cX11_faultOf 8 = .ok (.invokevirtual 164, 3) := by decide +kernel
theorem dX11_faultOf_11 : decode cX11_faultOf 11 = .ok (.istore_n 3, 1) := by decide +kernel
theorem dX11_faultOf_12 : decode cX11_faultOf 12 = .ok (.iload_n 1, 1) := by decide +kernel
theorem dX11_faultOf_13 : decode cX11_faultOf 13 = .ok (.ifCond .ne 7, 3) := by decide +kernel
theorem dX11_faultOf_16 : decode cX11_faultOf 16 = .ok (.iload_n 2, 1) := by decide +kernel
theorem dX11_faultOf_17 : decode cX11_faultOf 17 = .ok (.goto 4, 3) := by decide +kernel
theorem dX11_faultOf_20 : decode cX11_faultOf 20 = .ok (.iload_n 3, 1) := by decide +kernel
theorem dX11_faultOf_21 : decode cX11_faultOf 21 = .ok (.ireturn, 1) := by decide +kernel
theorem dX11_reads_0 : decode cX11_reads 0 = .ok (.aload_n 0, 1) := by decide +kernel
theorem dX11_reads_1 : decode cX11_reads 1 = .ok (.iconst 0, 1) := by decide +kernel
theorem dX11_reads_2 : decode cX11_reads 2 = .ok (.invokevirtual 168, 3) := by decide +kernel
theorem dX11_reads_5 : decode cX11_reads 5 = .ok (.istore_n 1, 1) := by decide +kernel
theorem dX11_reads_6 : decode cX11_reads 6 = .ok (.return_, 1) := by decide +kernel
theorem dX11_fault_0 : decode cX11_fault 0 = .ok (.iload_n 1, 1) := by decide +kernel
theorem dX11_fault_1 : decode cX11_fault 1 = .ok (.invokestatic 144, 3) := by decide +kernel
theorem dX11_fault_4 : decode cX11_fault 4 = .ok (.ifCond .eq 11, 3) := by decide +kernel
theorem dX11_fault_7 : decode cX11_fault 7 = .ok (.aload_n 0, 1) := by decide +kernel
theorem dX11_fault_8 : decode cX11_fault 8 = .ok (.iload_n 1, 1) := by decide +kernel
theorem dX11_fault_9 : decode cX11_fault 9 = .ok (.invokevirtual 168, 3) := by decide +kernel
theorem dX11_fault_12 : decode cX11_fault 12 = .ok (.goto 5, 3) := by decide +kernel
theorem dX11_fault_15 : decode cX11_fault 15 = .ok (.bipush (-2), 2) := by decide +kernel
theorem dX11_fault_17 : decode cX11_fault 17 = .ok (.ireturn, 1) := by decide +kernel
theorem dX11_isPerson_0 : decode cX11_isPerson 0 = .ok (.aload_n 0, 1) := by decide +kernel
theorem dX11_isPerson_1 : decode cX11_isPerson 1 = .ok (.invokevirtual 171, 3) := by decide +kernel
theorem dX11_isPerson_4 : decode cX11_isPerson 4 = .ok (.iload_n 1, 1) := by decide +kernel
theorem dX11_isPerson_5 : decode cX11_isPerson 5 = .ok (.iconst 0, 1) := by decide +kernel
theorem dX11_isPerson_6 : decode cX11_isPerson 6 = .ok (.aload_n 0, 1) := by decide +kernel
theorem dX11_isPerson_7 : decode cX11_isPerson 7 = .ok (.getfield 152, 3) := by decide +kernel
theorem dX11_isPerson_10 : decode cX11_isPerson 10 = .ok (.iconst 1, 1) := by decide +kernel
theorem dX11_isPerson_11 : decode cX11_isPerson 11 = .ok (.isub, 1) := by decide +kernel
theorem dX11_isPerson_12 : decode cX11_isPerson 12 = .ok (.invokestatic 140, 3) := by decide +kernel
theorem dX11_isPerson_15 : decode cX11_isPerson 15 = .ok (.ireturn, 1) := by decide +kernel
theorem dX11_isDeed_0 : decode cX11_isDeed 0 = .ok (.aload_n 0, 1) := by decide +kernel
theorem dX11_isDeed_1 : decode cX11_isDeed 1 = .ok (.invokevirtual 171, 3) := by decide +kernel
theorem dX11_isDeed_4 : decode cX11_isDeed 4 = .ok (.iload_n 1, 1) := by decide +kernel
theorem dX11_isDeed_5 : decode cX11_isDeed 5 = .ok (.iconst 0, 1) := by decide +kernel
theorem dX11_isDeed_6 : decode cX11_isDeed 6 = .ok (.aload_n 0, 1) := by decide +kernel
theorem dX11_isDeed_7 : decode cX11_isDeed 7 = .ok (.getfield 155, 3) := by decide +kernel
theorem dX11_isDeed_10 : decode cX11_isDeed 10 = .ok (.iconst 1, 1) := by decide +kernel
theorem dX11_isDeed_11 : decode cX11_isDeed 11 = .ok (.isub, 1) := by decide +kernel
theorem dX11_isDeed_12 : decode cX11_isDeed 12 = .ok (.invokestatic 140, 3) := by decide +kernel
theorem dX11_isDeed_15 : decode cX11_isDeed 15 = .ok (.ireturn, 1) := by decide +kernel
theorem dX11_personOf_0 : decode cX11_personOf 0 = .ok (.iload_n 2, 1) := by decide +kernel
theorem dX11_personOf_1 : decode cX11_personOf 1 = .ok (.ifCond .ne 12, 3) := by decide +kernel
theorem dX11_personOf_4 : decode cX11_personOf 4 = .ok (.aload_n 0, 1) := by decide +kernel
theorem dX11_personOf_5 : decode cX11_personOf 5 = .ok (.getfield 16, 3) := by decide +kernel
theorem dX11_personOf_8 : decode cX11_personOf 8 = .ok (.iload_n 1, 1) := by decide +kernel
theorem dX11_personOf_9 : decode cX11_personOf 9 = .ok (.iaload, 1) := by decide +kernel
theorem dX11_personOf_10 : decode cX11_personOf 10 = .ok (.goto 23, 3) := by decide +kernel
theorem dX11_personOf_13 : decode cX11_personOf 13 = .ok (.iload_n 2, 1) := by decide +kernel
theorem dX11_personOf_14 : decode cX11_personOf 14 = .ok (.iconst 1, 1) := by decide +kernel
theorem dX11_personOf_15 : decode cX11_personOf 15 = .ok (.if_icmp .ne 12, 3) := by decide +kernel
theorem dX11_personOf_18 : decode cX11_personOf 18 = .ok (.aload_n 0, 1) := by decide +kernel
theorem dX11_personOf_19 : decode cX11_personOf 19 = .ok (.getfield 19, 3) := by decide +kernel
theorem dX11_personOf_22 : decode cX11_personOf 22 = .ok (.iload_n 1, 1) := by decide +kernel
theorem dX11_personOf_23 : decode cX11_personOf 23 = .ok (.iaload, 1) := by decide +kernel
theorem dX11_personOf_24 : decode cX11_personOf 24 = .ok (.goto 9, 3) := by decide +kernel
theorem dX11_personOf_27 : decode cX11_personOf 27 = .ok (.aload_n 0, 1) := by decide +kernel
theorem dX11_personOf_28 : decode cX11_personOf 28 = .ok (.getfield 22, 3) := by decide +kernel
theorem dX11_personOf_31 : decode cX11_personOf 31 = .ok (.iload_n 1, 1) := by decide +kernel
theorem dX11_personOf_32 : decode cX11_personOf 32 = .ok (.iaload, 1) := by decide +kernel
theorem dX11_personOf_33 : decode cX11_personOf 33 = .ok (.ireturn, 1) := by decide +kernel
theorem dX11_person_0 : decode cX11_person 0 = .ok (.aload_n 0, 1) := by decide +kernel
theorem dX11_person_1 : decode cX11_person 1 = .ok (.iload_n 1, 1) := by decide +kernel
theorem dX11_person_2 : decode cX11_person 2 = .ok (.invokevirtual 174, 3) := by decide +kernel
theorem dX11_person_5 : decode cX11_person 5 = .ok (.ifCond .eq 21, 3) := by decide +kernel
theorem dX11_person_8 : decode cX11_person 8 = .ok (.iload_n 2, 1) := by decide +kernel
theorem dX11_person_9 : decode cX11_person 9 = .ok (.iconst 0, 1) := by decide +kernel
theorem dX11_person_10 : decode cX11_person 10 = .ok (.iconst 2, 1) := by decide +kernel
theorem dX11_person_11 : decode cX11_person 11 = .ok (.invokestatic 140, 3) := by decide +kernel
theorem dX11_person_14 : decode cX11_person 14 = .ok (.ifCond .eq 12, 3) := by decide +kernel
theorem dX11_person_17 : decode cX11_person 17 = .ok (.aload_n 0, 1) := by decide +kernel
theorem dX11_person_18 : decode cX11_person 18 = .ok (.iload_n 1, 1) := by decide +kernel
theorem dX11_person_19 : decode cX11_person 19 = .ok (.iload_n 2, 1) := by decide +kernel
theorem dX11_person_20 : decode cX11_person 20 = .ok (.invokevirtual 177, 3) := by decide +kernel
theorem dX11_person_23 : decode cX11_person 23 = .ok (.goto 5, 3) := by decide +kernel
theorem dX11_person_26 : decode cX11_person 26 = .ok (.bipush (-2), 2) := by decide +kernel
theorem dX11_person_28 : decode cX11_person 28 = .ok (.ireturn, 1) := by decide +kernel
theorem dX11_deedOf_0 : decode cX11_deedOf 0 = .ok (.iload_n 2, 1) := by decide +kernel
theorem dX11_deedOf_1 : decode cX11_deedOf 1 = .ok (.ifCond .ne 12, 3) := by decide +kernel
theorem dX11_deedOf_4 : decode cX11_deedOf 4 = .ok (.aload_n 0, 1) := by decide +kernel
theorem dX11_deedOf_5 : decode cX11_deedOf 5 = .ok (.getfield 25, 3) := by decide +kernel
theorem dX11_deedOf_8 : decode cX11_deedOf 8 = .ok (.iload_n 1, 1) := by decide +kernel
theorem dX11_deedOf_9 : decode cX11_deedOf 9 = .ok (.iaload, 1) := by decide +kernel
theorem dX11_deedOf_10 : decode cX11_deedOf 10 = .ok (.goto 23, 3) := by decide +kernel
theorem dX11_deedOf_13 : decode cX11_deedOf 13 = .ok (.iload_n 2, 1) := by decide +kernel
theorem dX11_deedOf_14 : decode cX11_deedOf 14 = .ok (.iconst 1, 1) := by decide +kernel
theorem dX11_deedOf_15 : decode cX11_deedOf 15 = .ok (.if_icmp .ne 12, 3) := by decide +kernel
theorem dX11_deedOf_18 : decode cX11_deedOf 18 = .ok (.aload_n 0, 1) := by decide +kernel
theorem dX11_deedOf_19 : decode cX11_deedOf 19 = .ok (.getfield 28, 3) := by decide +kernel
theorem dX11_deedOf_22 : decode cX11_deedOf 22 = .ok (.iload_n 1, 1) := by decide +kernel
theorem dX11_deedOf_23 : decode cX11_deedOf 23 = .ok (.iaload, 1) := by decide +kernel
theorem dX11_deedOf_24 : decode cX11_deedOf 24 = .ok (.goto 9, 3) := by decide +kernel
theorem dX11_deedOf_27 : decode cX11_deedOf 27 = .ok (.aload_n 0, 1) := by decide +kernel
theorem dX11_deedOf_28 : decode cX11_deedOf 28 = .ok (.getfield 31, 3) := by decide +kernel
theorem dX11_deedOf_31 : decode cX11_deedOf 31 = .ok (.iload_n 1, 1) := by decide +kernel
theorem dX11_deedOf_32 : decode cX11_deedOf 32 = .ok (.iaload, 1) := by decide +kernel
theorem dX11_deedOf_33 : decode cX11_deedOf 33 = .ok (.ireturn, 1) := by decide +kernel
theorem dX11_deed_0 : decode cX11_deed 0 = .ok (.aload_n 0, 1) := by decide +kernel
theorem dX11_deed_1 : decode cX11_deed 1 = .ok (.iload_n 1, 1) := by decide +kernel
theorem dX11_deed_2 : decode cX11_deed 2 = .ok (.invokevirtual 180, 3) := by decide +kernel
theorem dX11_deed_5 : decode cX11_deed 5 = .ok (.ifCond .eq 21, 3) := by decide +kernel
theorem dX11_deed_8 : decode cX11_deed 8 = .ok (.iload_n 2, 1) := by decide +kernel
theorem dX11_deed_9 : decode cX11_deed 9 = .ok (.iconst 0, 1) := by decide +kernel
theorem dX11_deed_10 : decode cX11_deed 10 = .ok (.iconst 2, 1) := by decide +kernel
theorem dX11_deed_11 : decode cX11_deed 11 = .ok (.invokestatic 140, 3) := by decide +kernel
theorem dX11_deed_14 : decode cX11_deed 14 = .ok (.ifCond .eq 12, 3) := by decide +kernel
theorem dX11_deed_17 : decode cX11_deed 17 = .ok (.aload_n 0, 1) := by decide +kernel
theorem dX11_deed_18 : decode cX11_deed 18 = .ok (.iload_n 1, 1) := by decide +kernel
theorem dX11_deed_19 : decode cX11_deed 19 = .ok (.iload_n 2, 1) := by decide +kernel
theorem dX11_deed_20 : decode cX11_deed 20 = .ok (.invokevirtual 183, 3) := by decide +kernel
theorem dX11_deed_23 : decode cX11_deed 23 = .ok (.goto 5, 3) := by decide +kernel
theorem dX11_deed_26 : decode cX11_deed 26 = .ok (.bipush (-2), 2) := by decide +kernel
theorem dX11_deed_28 : decode cX11_deed 28 = .ok (.ireturn, 1) := by decide +kernel
theorem dX11_set_0 : decode cX11_set 0 = .ok (.iload_n 1, 1) := by decide +kernel
theorem dX11_set_1 : decode cX11_set 1 = .ok (.iconst 0, 1) := by decide +kernel
theorem dX11_set_2 : decode cX11_set 2 = .ok (.iconst 1, 1) := by decide +kernel
theorem dX11_set_3 : decode cX11_set 3 = .ok (.invokestatic 140, 3) := by decide +kernel
theorem dX11_set_6 : decode cX11_set 6 = .ok (.ifCond .eq 22, 3) := by decide +kernel
theorem dX11_set_9 : decode cX11_set 9 = .ok (.iload_n 2, 1) := by decide +kernel
theorem dX11_set_10 : decode cX11_set 10 = .ok (.iconst 0, 1) := by decide +kernel
theorem dX11_set_11 : decode cX11_set 11 = .ok (.iload_n 1, 1) := by decide +kernel
theorem dX11_set_12 : decode cX11_set 12 = .ok (.ifCond .ne 8, 3) := by decide +kernel
theorem dX11_set_15 : decode cX11_set 15 = .ok (.bipush 9, 2) := by decide +kernel
theorem dX11_set_17 : decode cX11_set 17 = .ok (.goto 5, 3) := by decide +kernel
theorem dX11_set_20 : decode cX11_set 20 = .ok (.bipush 30, 2) := by decide +kernel
theorem dX11_set_22 : decode cX11_set 22 = .ok (.invokestatic 140, 3) := by decide +kernel
theorem dX11_set_25 : decode cX11_set 25 = .ok (.ifCond .ne 6, 3) := by decide +kernel
theorem dX11_set_28 : decode cX11_set 28 = .ok (.bipush (-2), 2) := by decide +kernel
theorem dX11_set_30 : decode cX11_set 30 = .ok (.ireturn, 1) := by decide +kernel
theorem dX11_set_31 : decode cX11_set 31 = .ok (.iload_n 1, 1) := by decide +kernel
theorem dX11_set_32 : decode cX11_set 32 = .ok (.ifCond .ne 10, 3) := by decide +kernel
theorem dX11_set_35 : decode cX11_set 35 = .ok (.aload_n 0, 1) := by decide +kernel
theorem dX11_set_36 : decode cX11_set 36 = .ok (.getfield 131, 3) := by decide +kernel
theorem dX11_set_39 : decode cX11_set 39 = .ok (.goto 7, 3) := by decide +kernel
theorem dX11_set_42 : decode cX11_set 42 = .ok (.aload_n 0, 1) := by decide +kernel
theorem dX11_set_43 : decode cX11_set 43 = .ok (.getfield 135, 3) := by decide +kernel
theorem dX11_set_46 : decode cX11_set 46 = .ok (.istore_n 3, 1) := by decide +kernel
theorem dX11_set_47 : decode cX11_set 47 = .ok (.aload_n 0, 1) := by decide +kernel
theorem dX11_set_48 : decode cX11_set 48 = .ok (.iload_n 1, 1) := by decide +kernel
theorem dX11_set_49 : decode cX11_set 49 = .ok (.ifCond .ne 7, 3) := by decide +kernel
theorem dX11_set_52 : decode cX11_set 52 = .ok (.iload_n 2, 1) := by decide +kernel
theorem dX11_set_53 : decode cX11_set 53 = .ok (.goto 7, 3) := by decide +kernel
theorem dX11_set_56 : decode cX11_set 56 = .ok (.aload_n 0, 1) := by decide +kernel
theorem dX11_set_57 : decode cX11_set 57 = .ok (.getfield 131, 3) := by decide +kernel
theorem dX11_set_60 : decode cX11_set 60 = .ok (.putfield 131, 3) := by decide +kernel
theorem dX11_set_63 : decode cX11_set 63 = .ok (.aload_n 0, 1) := by decide +kernel
theorem dX11_set_64 : decode cX11_set 64 = .ok (.iload_n 1, 1) := by decide +kernel
theorem dX11_set_65 : decode cX11_set 65 = .ok (.iconst 1, 1) := by decide +kernel
theorem dX11_set_66 : decode cX11_set 66 = .ok (.if_icmp .ne 7, 3) := by decide +kernel
theorem dX11_set_69 : decode cX11_set 69 = .ok (.iload_n 2, 1) := by decide +kernel
theorem dX11_set_70 : decode cX11_set 70 = .ok (.goto 7, 3) := by decide +kernel
theorem dX11_set_73 : decode cX11_set 73 = .ok (.aload_n 0, 1) := by decide +kernel
theorem dX11_set_74 : decode cX11_set 74 = .ok (.getfield 135, 3) := by decide +kernel
theorem dX11_set_77 : decode cX11_set 77 = .ok (.putfield 135, 3) := by decide +kernel
theorem dX11_set_80 : decode cX11_set 80 = .ok (.iload_n 3, 1) := by decide +kernel
theorem dX11_set_81 : decode cX11_set 81 = .ok (.ireturn, 1) := by decide +kernel
theorem dX11_round_0 : decode cX11_round 0 = .ok (.iload_n 1, 1) := by decide +kernel
theorem dX11_round_1 : decode cX11_round 1 = .ok (.invokestatic 186, 3) := by decide +kernel
theorem dX11_round_4 : decode cX11_round 4 = .ok (.ifCond .eq 19, 3) := by decide +kernel
theorem dX11_round_7 : decode cX11_round 7 = .ok (.iload_n 2, 1) := by decide +kernel
theorem dX11_round_8 : decode cX11_round 8 = .ok (.invokestatic 189, 3) := by decide +kernel
theorem dX11_round_11 : decode cX11_round 11 = .ok (.ifCond .eq 12, 3) := by decide +kernel
theorem dX11_round_14 : decode cX11_round 14 = .ok (.iload_n 3, 1) := by decide +kernel
theorem dX11_round_15 : decode cX11_round 15 = .ok (.iconst 1, 1) := by decide +kernel
theorem dX11_round_16 : decode cX11_round 16 = .ok (.iconst 4, 1) := by decide +kernel
theorem dX11_round_17 : decode cX11_round 17 = .ok (.invokestatic 140, 3) := by decide +kernel
theorem dX11_round_20 : decode cX11_round 20 = .ok (.ifCond .ne 6, 3) := by decide +kernel
theorem dX11_round_23 : decode cX11_round 23 = .ok (.bipush (-2), 2) := by decide +kernel
theorem dX11_round_25 : decode cX11_round 25 = .ok (.ireturn, 1) := by decide +kernel
theorem dX11_round_26 : decode cX11_round 26 = .ok (.aload_n 0, 1) := by decide +kernel
theorem dX11_round_27 : decode cX11_round 27 = .ok (.getfield 192, 3) := by decide +kernel
theorem dX11_round_30 : decode cX11_round 30 = .ok (.bipush 8, 2) := by decide +kernel
theorem dX11_round_32 : decode cX11_round 32 = .ok (.if_icmp .ne 6, 3) := by decide +kernel
theorem dX11_round_35 : decode cX11_round 35 = .ok (.bipush (-4), 2) := by decide +kernel
theorem dX11_round_37 : decode cX11_round 37 = .ok (.ireturn, 1) := by decide +kernel
theorem dX11_round_38 : decode cX11_round 38 = .ok (.aload_n 0, 1) := by decide +kernel
theorem dX11_round_39 : decode cX11_round 39 = .ok (.getfield 34, 3) := by decide +kernel
theorem dX11_round_42 : decode cX11_round 42 = .ok (.aload_n 0, 1) := by decide +kernel
theorem dX11_round_43 : decode cX11_round 43 = .ok (.getfield 192, 3) := by decide +kernel
theorem dX11_round_46 : decode cX11_round 46 = .ok (.iload_n 1, 1) := by decide +kernel
theorem dX11_round_47 : decode cX11_round 47 = .ok (.iastore, 1) := by decide +kernel
theorem dX11_round_48 : decode cX11_round 48 = .ok (.aload_n 0, 1) := by decide +kernel
theorem dX11_round_49 : decode cX11_round 49 = .ok (.getfield 37, 3) := by decide +kernel
theorem dX11_round_52 : decode cX11_round 52 = .ok (.aload_n 0, 1) := by decide +kernel
theorem dX11_round_53 : decode cX11_round 53 = .ok (.getfield 192, 3) := by decide +kernel
theorem dX11_round_56 : decode cX11_round 56 = .ok (.iload_n 2, 1) := by decide +kernel
theorem dX11_round_57 : decode cX11_round 57 = .ok (.iastore, 1) := by decide +kernel
theorem dX11_round_58 : decode cX11_round 58 = .ok (.aload_n 0, 1) := by decide +kernel
theorem dX11_round_59 : decode cX11_round 59 = .ok (.getfield 40, 3) := by decide +kernel
theorem dX11_round_62 : decode cX11_round 62 = .ok (.aload_n 0, 1) := by decide +kernel
theorem dX11_round_63 : decode cX11_round 63 = .ok (.getfield 192, 3) := by decide +kernel
theorem dX11_round_66 : decode cX11_round 66 = .ok (.iload_n 3, 1) := by decide +kernel
theorem dX11_round_67 : decode cX11_round 67 = .ok (.iastore, 1) := by decide +kernel
theorem dX11_round_68 : decode cX11_round 68 = .ok (.aload_n 0, 1) := by decide +kernel
theorem dX11_round_69 : decode cX11_round 69 = .ok (.dup, 1) := by decide +kernel
theorem dX11_round_70 : decode cX11_round 70 = .ok (.getfield 192, 3) := by decide +kernel
theorem dX11_round_73 : decode cX11_round 73 = .ok (.iconst 1, 1) := by decide +kernel
theorem dX11_round_74 : decode cX11_round 74 = .ok (.iadd, 1) := by decide +kernel
theorem dX11_round_75 : decode cX11_round 75 = .ok (.putfield 192, 3) := by decide +kernel
theorem dX11_round_78 : decode cX11_round 78 = .ok (.aload_n 0, 1) := by decide +kernel
theorem dX11_round_79 : decode cX11_round 79 = .ok (.getfield 192, 3) := by decide +kernel
theorem dX11_round_82 : decode cX11_round 82 = .ok (.ireturn, 1) := by decide +kernel
theorem dX11_journey_0 : decode cX11_journey 0 = .ok (.iload_n 1, 1) := by decide +kernel
theorem dX11_journey_1 : decode cX11_journey 1 = .ok (.invokestatic 186, 3) := by decide +kernel
theorem dX11_journey_4 : decode cX11_journey 4 = .ok (.ifCond .eq 20, 3) := by decide +kernel
theorem dX11_journey_7 : decode cX11_journey 7 = .ok (.iload_n 2, 1) := by decide +kernel
theorem dX11_journey_8 : decode cX11_journey 8 = .ok (.iconst 0, 1) := by decide +kernel
theorem dX11_journey_9 : decode cX11_journey 9 = .ok (.bipush 7, 2) := by decide +kernel
theorem dX11_journey_11 : decode cX11_journey 11 = .ok (.invokestatic 140, 3) := by decide +kernel
theorem dX11_journey_14 : decode cX11_journey 14 = .ok (.ifCond .eq 10, 3) := by decide +kernel
theorem dX11_journey_17 : decode cX11_journey 17 = .ok (.iload_n 3, 1) := by decide +kernel
theorem dX11_journey_18 : decode cX11_journey 18 = .ok (.invokestatic 189, 3) := by decide +kernel
theorem dX11_journey_21 : decode cX11_journey 21 = .ok (.ifCond .ne 6, 3) := by decide +kernel
theorem dX11_journey_24 : decode cX11_journey 24 = .ok (.bipush (-2), 2) := by decide +kernel
theorem dX11_journey_26 : decode cX11_journey 26 = .ok (.ireturn, 1) := by decide +kernel
theorem dX11_journey_27 : decode cX11_journey 27 = .ok (.aload_n 0, 1) := by decide +kernel
theorem dX11_journey_28 : decode cX11_journey 28 = .ok (.getfield 195, 3) := by decide +kernel
theorem dX11_journey_31 : decode cX11_journey 31 = .ok (.bipush 8, 2) := by decide +kernel
theorem dX11_journey_33 : decode cX11_journey 33 = .ok (.if_icmp .ne 6, 3) := by decide +kernel
theorem dX11_journey_36 : decode cX11_journey 36 = .ok (.bipush (-4), 2) := by decide +kernel
theorem dX11_journey_38 : decode cX11_journey 38 = .ok (.ireturn, 1) := by decide +kernel
theorem dX11_journey_39 : decode cX11_journey 39 = .ok (.aload_n 0, 1) := by decide +kernel
theorem dX11_journey_40 : decode cX11_journey 40 = .ok (.getfield 43, 3) := by decide +kernel
theorem dX11_journey_43 : decode cX11_journey 43 = .ok (.aload_n 0, 1) := by decide +kernel
theorem dX11_journey_44 : decode cX11_journey 44 = .ok (.getfield 195, 3) := by decide +kernel
theorem dX11_journey_47 : decode cX11_journey 47 = .ok (.iload_n 1, 1) := by decide +kernel
theorem dX11_journey_48 : decode cX11_journey 48 = .ok (.iastore, 1) := by decide +kernel
theorem dX11_journey_49 : decode cX11_journey 49 = .ok (.aload_n 0, 1) := by decide +kernel
theorem dX11_journey_50 : decode cX11_journey 50 = .ok (.getfield 46, 3) := by decide +kernel
theorem dX11_journey_53 : decode cX11_journey 53 = .ok (.aload_n 0, 1) := by decide +kernel
theorem dX11_journey_54 : decode cX11_journey 54 = .ok (.getfield 195, 3) := by decide +kernel
theorem dX11_journey_57 : decode cX11_journey 57 = .ok (.iload_n 2, 1) := by decide +kernel
theorem dX11_journey_58 : decode cX11_journey 58 = .ok (.iastore, 1) := by decide +kernel
theorem dX11_journey_59 : decode cX11_journey 59 = .ok (.aload_n 0, 1) := by decide +kernel
theorem dX11_journey_60 : decode cX11_journey 60 = .ok (.getfield 49, 3) := by decide +kernel
theorem dX11_journey_63 : decode cX11_journey 63 = .ok (.aload_n 0, 1) := by decide +kernel
theorem dX11_journey_64 : decode cX11_journey 64 = .ok (.getfield 195, 3) := by decide +kernel
theorem dX11_journey_67 : decode cX11_journey 67 = .ok (.iload_n 3, 1) := by decide +kernel
theorem dX11_journey_68 : decode cX11_journey 68 = .ok (.iastore, 1) := by decide +kernel
theorem dX11_journey_69 : decode cX11_journey 69 = .ok (.aload_n 0, 1) := by decide +kernel
theorem dX11_journey_70 : decode cX11_journey 70 = .ok (.dup, 1) := by decide +kernel
theorem dX11_journey_71 : decode cX11_journey 71 = .ok (.getfield 195, 3) := by decide +kernel
theorem dX11_journey_74 : decode cX11_journey 74 = .ok (.iconst 1, 1) := by decide +kernel
theorem dX11_journey_75 : decode cX11_journey 75 = .ok (.iadd, 1) := by decide +kernel
theorem dX11_journey_76 : decode cX11_journey 76 = .ok (.putfield 195, 3) := by decide +kernel
theorem dX11_journey_79 : decode cX11_journey 79 = .ok (.aload_n 0, 1) := by decide +kernel
theorem dX11_journey_80 : decode cX11_journey 80 = .ok (.getfield 195, 3) := by decide +kernel
theorem dX11_journey_83 : decode cX11_journey 83 = .ok (.ireturn, 1) := by decide +kernel
