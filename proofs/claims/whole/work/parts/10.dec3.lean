/-! DECODE ROWS: out of the printed names. -/
theorem dX8_init_0 : decode cX8_init 0 = .ok (.aload_n 0, 1) := by decide +kernel
theorem dX8_init_1 : decode cX8_init 1 = .ok (.invokespecial 1, 3) := by decide +kernel
theorem dX8_init_4 : decode cX8_init 4 = .ok (.aload_n 0, 1) := by decide +kernel
theorem dX8_init_5 : decode cX8_init 5 = .ok (.bipush 70, 2) := by decide +kernel
theorem dX8_init_7 : decode cX8_init 7 = .ok (.newarray .int, 2) := by decide +kernel
theorem dX8_init_9 : decode cX8_init 9 = .ok (.putfield 7, 3) := by decide +kernel
theorem dX8_init_12 : decode cX8_init 12 = .ok (.aload_n 0, 1) := by decide +kernel
theorem dX8_init_13 : decode cX8_init 13 = .ok (.bipush 12, 2) := by decide +kernel
theorem dX8_init_15 : decode cX8_init 15 = .ok (.newarray .int, 2) := by decide +kernel
theorem dX8_init_17 : decode cX8_init 17 = .ok (.putfield 13, 3) := by decide +kernel
theorem dX8_init_20 : decode cX8_init 20 = .ok (.aload_n 0, 1) := by decide +kernel
theorem dX8_init_21 : decode cX8_init 21 = .ok (.bipush 96, 2) := by decide +kernel
theorem dX8_init_23 : decode cX8_init 23 = .ok (.newarray .int, 2) := by decide +kernel
theorem dX8_init_25 : decode cX8_init 25 = .ok (.putfield 16, 3) := by decide +kernel
theorem dX8_init_28 : decode cX8_init 28 = .ok (.aload_n 0, 1) := by decide +kernel
theorem dX8_init_29 : decode cX8_init 29 = .ok (.bipush 96, 2) := by decide +kernel
theorem dX8_init_31 : decode cX8_init 31 = .ok (.newarray .int, 2) := by decide +kernel
theorem dX8_init_33 : decode cX8_init 33 = .ok (.putfield 19, 3) := by decide +kernel
theorem dX8_init_36 : decode cX8_init 36 = .ok (.aload_n 0, 1) := by decide +kernel
theorem dX8_init_37 : decode cX8_init 37 = .ok (.bipush 96, 2) := by decide +kernel
theorem dX8_init_39 : decode cX8_init 39 = .ok (.newarray .int, 2) := by decide +kernel
theorem dX8_init_41 : decode cX8_init 41 = .ok (.putfield 22, 3) := by decide +kernel
theorem dX8_init_44 : decode cX8_init 44 = .ok (.aload_n 0, 1) := by decide +kernel
theorem dX8_init_45 : decode cX8_init 45 = .ok (.bipush 12, 2) := by decide +kernel
theorem dX8_init_47 : decode cX8_init 47 = .ok (.newarray .int, 2) := by decide +kernel
theorem dX8_init_49 : decode cX8_init 49 = .ok (.putfield 25, 3) := by decide +kernel
theorem dX8_init_52 : decode cX8_init 52 = .ok (.aload_n 0, 1) := by decide +kernel
theorem dX8_init_53 : decode cX8_init 53 = .ok (.iconst 4, 1) := by decide +kernel
theorem dX8_init_54 : decode cX8_init 54 = .ok (.newarray .int, 2) := by decide +kernel
theorem dX8_init_56 : decode cX8_init 56 = .ok (.putfield 28, 3) := by decide +kernel
theorem dX8_init_59 : decode cX8_init 59 = .ok (.aload_n 0, 1) := by decide +kernel
theorem dX8_init_60 : decode cX8_init 60 = .ok (.bipush 14, 2) := by decide +kernel
theorem dX8_init_62 : decode cX8_init 62 = .ok (.newarray .long, 2) := by decide +kernel
theorem dX8_init_64 : decode cX8_init 64 = .ok (.putfield 31, 3) := by decide +kernel
theorem dX8_init_67 : decode cX8_init 67 = .ok (.aload_n 0, 1) := by decide +kernel
theorem dX8_init_68 : decode cX8_init 68 = .ok (.bipush 6, 2) := by decide +kernel
theorem dX8_init_70 : decode cX8_init 70 = .ok (.newarray .int, 2) := by decide +kernel
theorem dX8_init_72 : decode cX8_init 72 = .ok (.putfield 35, 3) := by decide +kernel
theorem dX8_init_75 : decode cX8_init 75 = .ok (.aload_n 0, 1) := by decide +kernel
theorem dX8_init_76 : decode cX8_init 76 = .ok (.bipush 96, 2) := by decide +kernel
theorem dX8_init_78 : decode cX8_init 78 = .ok (.newarray .int, 2) := by decide +kernel
theorem dX8_init_80 : decode cX8_init 80 = .ok (.putfield 38, 3) := by decide +kernel
theorem dX8_init_83 : decode cX8_init 83 = .ok (.aload_n 0, 1) := by decide +kernel
theorem dX8_init_84 : decode cX8_init 84 = .ok (.bipush 96, 2) := by decide +kernel
theorem dX8_init_86 : decode cX8_init 86 = .ok (.newarray .int, 2) := by decide +kernel
theorem dX8_init_88 : decode cX8_init 88 = .ok (.putfield 41, 3) := by decide +kernel
theorem dX8_init_91 : decode cX8_init 91 = .ok (.aload_n 0, 1) := by decide +kernel
theorem dX8_init_92 : decode cX8_init 92 = .ok (.bipush 96, 2) := by decide +kernel
theorem dX8_init_94 : decode cX8_init 94 = .ok (.newarray .int, 2) := by decide +kernel
theorem dX8_init_96 : decode cX8_init 96 = .ok (.putfield 44, 3) := by decide +kernel
theorem dX8_init_99 : decode cX8_init 99 = .ok (.aload_n 0, 1) := by decide +kernel
theorem dX8_init_100 : decode cX8_init 100 = .ok (.bipush 96, 2) := by decide +kernel
theorem dX8_init_102 : decode cX8_init 102 = .ok (.newarray .int, 2) := by decide +kernel
theorem dX8_init_104 : decode cX8_init 104 = .ok (.putfield 47, 3) := by decide +kernel
theorem dX8_init_107 : decode cX8_init 107 = .ok (.aload_n 0, 1) := by decide +kernel
theorem dX8_init_108 : decode cX8_init 108 = .ok (.iconst 4, 1) := by decide +kernel
theorem dX8_init_109 : decode cX8_init 109 = .ok (.newarray .int, 2) := by decide +kernel
theorem dX8_init_111 : decode cX8_init 111 = .ok (.putfield 50, 3) := by decide +kernel
theorem dX8_init_114 : decode cX8_init 114 = .ok (.aload_n 0, 1) := by decide +kernel
theorem dX8_init_115 : decode cX8_init 115 = .ok (.iconst 4, 1) := by decide +kernel
theorem dX8_init_116 : decode cX8_init 116 = .ok (.newarray .int, 2) := by decide +kernel
theorem dX8_init_118 : decode cX8_init 118 = .ok (.putfield 53, 3) := by decide +kernel
theorem dX8_init_121 : decode cX8_init 121 = .ok (.aload_n 0, 1) := by decide +kernel
theorem dX8_init_122 : decode cX8_init 122 = .ok (.iconst 4, 1) := by decide +kernel
theorem dX8_init_123 : decode cX8_init 123 = .ok (.newarray .int, 2) := by decide +kernel
theorem dX8_init_125 : decode cX8_init 125 = .ok (.putfield 56, 3) := by decide +kernel
theorem dX8_init_128 : decode cX8_init 128 = .ok (.aload_n 0, 1) := by decide +kernel
theorem dX8_init_129 : decode cX8_init 129 = .ok (.iconst 4, 1) := by decide +kernel
theorem dX8_init_130 : decode cX8_init 130 = .ok (.newarray .int, 2) := by decide +kernel
theorem dX8_init_132 : decode cX8_init 132 = .ok (.putfield 59, 3) := by decide +kernel
theorem dX8_init_135 : decode cX8_init 135 = .ok (.aload_n 0, 1) := by decide +kernel
theorem dX8_init_136 : decode cX8_init 136 = .ok (.bipush 40, 2) := by decide +kernel
theorem dX8_init_138 : decode cX8_init 138 = .ok (.newarray .int, 2) := by decide +kernel
theorem dX8_init_140 : decode cX8_init 140 = .ok (.putfield 62, 3) := by decide +kernel
theorem dX8_init_143 : decode cX8_init 143 = .ok (.aload_n 0, 1) := by decide +kernel
theorem dX8_init_144 : decode cX8_init 144 = .ok (.sipush 2800, 3) := by decide +kernel
theorem dX8_init_147 : decode cX8_init 147 = .ok (.newarray .int, 2) := by decide +kernel
theorem dX8_init_149 : decode cX8_init 149 = .ok (.putfield 65, 3) := by decide +kernel
theorem dX8_init_152 : decode cX8_init 152 = .ok (.aload_n 0, 1) := by decide +kernel
theorem dX8_init_153 : decode cX8_init 153 = .ok (.iconst 4, 1) := by decide +kernel
theorem dX8_init_154 : decode cX8_init 154 = .ok (.newarray .int, 2) := by decide +kernel
theorem dX8_init_156 : decode cX8_init 156 = .ok (.putfield 68, 3) := by decide +kernel
theorem dX8_init_159 : decode cX8_init 159 = .ok (.aload_n 0, 1) := by decide +kernel
theorem dX8_init_160 : decode cX8_init 160 = .ok (.iconst 4, 1) := by decide +kernel
theorem dX8_init_161 : decode cX8_init 161 = .ok (.newarray .int, 2) := by decide +kernel
theorem dX8_init_163 : decode cX8_init 163 = .ok (.putfield 71, 3) := by decide +kernel
theorem dX8_init_166 : decode cX8_init 166 = .ok (.aload_n 0, 1) := by decide +kernel
theorem dX8_init_167 : decode cX8_init 167 = .ok (.bipush 70, 2) := by decide +kernel
theorem dX8_init_169 : decode cX8_init 169 = .ok (.newarray .int, 2) := by decide +kernel
theorem dX8_init_171 : decode cX8_init 171 = .ok (.putfield 74, 3) := by decide +kernel
theorem dX8_init_174 : decode cX8_init 174 = .ok (.aload_n 0, 1) := by decide +kernel
theorem dX8_init_175 : decode cX8_init 175 = .ok (.sipush 210, 3) := by decide +kernel
theorem dX8_init_178 : decode cX8_init 178 = .ok (.newarray .int, 2) := by decide +kernel
theorem dX8_init_180 : decode cX8_init 180 = .ok (.putfield 77, 3) := by decide +kernel
theorem dX8_init_183 : decode cX8_init 183 = .ok (.aload_n 0, 1) := by decide +kernel
theorem dX8_init_184 : decode cX8_init 184 = .ok (.iconst 3, 1) := by decide +kernel
theorem dX8_init_185 : decode cX8_init 185 = .ok (.newarray .boolean, 2) := by decide +kernel
theorem dX8_init_187 : decode cX8_init 187 = .ok (.putfield 80, 3) := by decide +kernel
theorem dX8_init_190 : decode cX8_init 190 = .ok (.aload_n 0, 1) := by decide +kernel
theorem dX8_init_191 : decode cX8_init 191 = .ok (.iconst 4, 1) := by decide +kernel
theorem dX8_init_192 : decode cX8_init 192 = .ok (.newarray .int, 2) := by decide +kernel
theorem dX8_init_194 : decode cX8_init 194 = .ok (.putfield 84, 3) := by decide +kernel
theorem dX8_init_197 : decode cX8_init 197 = .ok (.aload_n 0, 1) := by decide +kernel
theorem dX8_init_198 : decode cX8_init 198 = .ok (.sipush 192, 3) := by decide +kernel
theorem dX8_init_201 : decode cX8_init 201 = .ok (.newarray .int, 2) := by decide +kernel
theorem dX8_init_203 : decode cX8_init 203 = .ok (.putfield 87, 3) := by decide +kernel
theorem dX8_init_206 : decode cX8_init 206 = .ok (.aload_n 0, 1) := by decide +kernel
theorem dX8_init_207 : decode cX8_init 207 = .ok (.iconst 4, 1) := by decide +kernel
theorem dX8_init_208 : decode cX8_init 208 = .ok (.newarray .int, 2) := by decide +kernel
theorem dX8_init_210 : decode cX8_init 210 = .ok (.putfield 90, 3) := by decide +kernel
theorem dX8_init_213 : decode cX8_init 213 = .ok (.aload_n 0, 1) := by decide +kernel
theorem dX8_init_214 : decode cX8_init 214 = .ok (.getfield 31, 3) := by decide +kernel
theorem dX8_init_217 : decode cX8_init 217 = .ok (.iconst 0, 1) := by decide +kernel
theorem dX8_init_218 : decode cX8_init 218 = .ok (.ldc2_w 93, 3) := by decide +kernel
theorem dX8_init_221 : decode cX8_init 221 = .ok (.lastore, 1) := by decide +kernel
theorem dX8_init_222 : decode cX8_init 222 = .ok (.aload_n 0, 1) := by decide +kernel
theorem dX8_init_223 : decode cX8_init 223 = .ok (.getfield 31, 3) := by decide +kernel
theorem dX8_init_226 : decode cX8_init 226 = .ok (.iconst 1, 1) := by decide +kernel
theorem dX8_init_227 : decode cX8_init 227 = .ok (.ldc2_w 95, 3) := by decide +kernel
theorem dX8_init_230 : decode cX8_init 230 = .ok (.lastore, 1) := by decide +kernel
theorem dX8_init_231 : decode cX8_init 231 = .ok (.aload_n 0, 1) := by decide +kernel
theorem dX8_init_232 : decode cX8_init 232 = .ok (.getfield 31, 3) := by decide +kernel
theorem dX8_init_235 : decode cX8_init 235 = .ok (.iconst 2, 1) := by decide +kernel
theorem dX8_init_236 : decode cX8_init 236 = .ok (.ldc2_w 97, 3) := by decide +kernel
theorem dX8_init_239 : decode cX8_init 239 = .ok (.lastore, 1) := by decide +kernel
theorem dX8_init_240 : decode cX8_init 240 = .ok (.aload_n 0, 1) := by decide +kernel
theorem dX8_init_241 : decode cX8_init 241 = .ok (.getfield 31, 3) := by decide +kernel
theorem dX8_init_244 : decode cX8_init 244 = .ok (.iconst 3, 1) := by decide +kernel
theorem dX8_init_245 : decode cX8_init 245 = .ok (.ldc2_w 99, 3) := by decide +kernel
theorem dX8_init_248 : decode cX8_init 248 = .ok (.lastore, 1) := by decide +kernel
theorem dX8_init_249 : decode cX8_init 249 = .ok (.aload_n 0, 1) := by decide +kernel
theorem dX8_init_250 : decode cX8_init 250 = .ok (.getfield 31, 3) := by decide +kernel
theorem dX8_init_253 : decode cX8_init 253 = .ok (.iconst 4, 1) := by decide +kernel
theorem dX8_init_254 : decode cX8_init 254 = .ok (.ldc2_w 101, 3) := by decide +kernel
theorem dX8_init_257 : decode cX8_init 257 = .ok (.lastore, 1) := by decide +kernel
theorem dX8_init_258 : decode cX8_init 258 = .ok (.aload_n 0, 1) := by decide +kernel
theorem dX8_init_259 : decode cX8_init 259 = .ok (.getfield 31, 3) := by decide +kernel
theorem dX8_init_262 : decode cX8_init 262 = .ok (.iconst 5, 1) := by decide +kernel
theorem dX8_init_263 : decode cX8_init 263 = .ok (.ldc2_w 103, 3) := by decide +kernel
theorem dX8_init_266 : decode cX8_init 266 = .ok (.lastore, 1) := by decide +kernel
theorem dX8_init_267 : decode cX8_init 267 = .ok (.aload_n 0, 1) := by decide +kernel
theorem dX8_init_268 : decode cX8_init 268 = .ok (.getfield 31, 3) := by decide +kernel
theorem dX8_init_271 : decode cX8_init 271 = .ok (.bipush 6, 2) := by decide +kernel
theorem dX8_init_273 : decode cX8_init 273 = .ok (.ldc2_w 105, 3) := by decide +kernel
theorem dX8_init_276 : decode cX8_init 276 = .ok (.lastore, 1) := by decide +kernel
theorem dX8_init_277 : decode cX8_init 277 = .ok (.aload_n 0, 1) := by decide +kernel
theorem dX8_init_278 : decode cX8_init 278 = .ok (.getfield 31, 3) := by decide +kernel
theorem dX8_init_281 : decode cX8_init 281 = .ok (.bipush 7, 2) := by decide +kernel
theorem dX8_init_283 : decode cX8_init 283 = .ok (.ldc2_w 107, 3) := by decide +kernel
theorem dX8_init_286 : decode cX8_init 286 = .ok (.lastore, 1) := by decide +kernel
theorem dX8_init_287 : decode cX8_init 287 = .ok (.aload_n 0, 1) := by decide +kernel
theorem dX8_init_288 : decode cX8_init 288 = .ok (.getfield 31, 3) := by decide +kernel
theorem dX8_init_291 : decode cX8_init 291 = .ok (.bipush 8, 2) := by decide +kernel
theorem dX8_init_293 : decode cX8_init 293 = .ok (.ldc2_w 109, 3) := by decide +kernel
theorem dX8_init_296 : decode cX8_init 296 = .ok (.lastore, 1) := by decide +kernel
theorem dX8_init_297 : decode cX8_init 297 = .ok (.aload_n 0, 1) := by decide +kernel
theorem dX8_init_298 : decode cX8_init 298 = .ok (.getfield 31, 3) := by decide +kernel
theorem dX8_init_301 : decode cX8_init 301 = .ok (.bipush 9, 2) := by decide +kernel
theorem dX8_init_303 : decode cX8_init 303 = .ok (.ldc2_w 111, 3) := by decide +kernel
theorem dX8_init_306 : decode cX8_init 306 = .ok (.lastore, 1) := by decide +kernel
theorem dX8_init_307 : decode cX8_init 307 = .ok (.aload_n 0, 1) := by decide +kernel
theorem dX8_init_308 : decode cX8_init 308 = .ok (.getfield 31, 3) := by decide +kernel
theorem dX8_init_311 : decode cX8_init 311 = .ok (.bipush 10, 2) := by decide +kernel
theorem dX8_init_313 : decode cX8_init 313 = .ok (.ldc2_w 113, 3) := by decide +kernel
theorem dX8_init_316 : decode cX8_init 316 = .ok (.lastore, 1) := by decide +kernel
theorem dX8_init_317 : decode cX8_init 317 = .ok (.aload_n 0, 1) := by decide +kernel
theorem dX8_init_318 : decode cX8_init 318 = .ok (.getfield 31, 3) := by decide +kernel
theorem dX8_init_321 : decode cX8_init 321 = .ok (.bipush 11, 2) := by decide +kernel
theorem dX8_init_323 : decode cX8_init 323 = .ok (.ldc2_w 115, 3) := by decide +kernel
theorem dX8_init_326 : decode cX8_init 326 = .ok (.lastore, 1) := by decide +kernel
theorem dX8_init_327 : decode cX8_init 327 = .ok (.aload_n 0, 1) := by decide +kernel
theorem dX8_init_328 : decode cX8_init 328 = .ok (.getfield 31, 3) := by decide +kernel
theorem dX8_init_331 : decode cX8_init 331 = .ok (.bipush 12, 2) := by decide +kernel
theorem dX8_init_333 : decode cX8_init 333 = .ok (.ldc2_w 117, 3) := by decide +kernel
theorem dX8_init_336 : decode cX8_init 336 = .ok (.lastore, 1) := by decide +kernel
theorem dX8_init_337 : decode cX8_init 337 = .ok (.aload_n 0, 1) := by decide +kernel
theorem dX8_init_338 : decode cX8_init 338 = .ok (.getfield 31, 3) := by decide +kernel
theorem dX8_init_341 : decode cX8_init 341 = .ok (.bipush 13, 2) := by decide +kernel
theorem dX8_init_343 : decode cX8_init 343 = .ok (.ldc2_w 119, 3) := by decide +kernel
theorem dX8_init_346 : decode cX8_init 346 = .ok (.lastore, 1) := by decide +kernel
theorem dX8_init_347 : decode cX8_init 347 = .ok (.iconst 0, 1) := by decide +kernel
theorem dX8_init_348 : decode cX8_init 348 = .ok (.istore_n 1, 1) := by decide +kernel
theorem dX8_init_349 : decode cX8_init 349 = .ok (.iload_n 1, 1) := by decide +kernel
theorem dX8_init_350 : decode cX8_init 350 = .ok (.iconst 4, 1) := by decide +kernel
theorem dX8_init_351 : decode cX8_init 351 = .ok (.if_icmp .ge 23, 3) := by decide +kernel
theorem dX8_init_354 : decode cX8_init 354 = .ok (.aload_n 0, 1) := by decide +kernel
theorem dX8_init_355 : decode cX8_init 355 = .ok (.getfield 28, 3) := by decide +kernel
theorem dX8_init_358 : decode cX8_init 358 = .ok (.iload_n 1, 1) := by decide +kernel
theorem dX8_init_359 : decode cX8_init 359 = .ok (.iconst (-1), 1) := by decide +kernel
theorem dX8_init_360 : decode cX8_init 360 = .ok (.iastore, 1) := by decide +kernel
theorem dX8_init_361 : decode cX8_init 361 = .ok (.aload_n 0, 1) := by decide +kernel
theorem dX8_init_362 : decode cX8_init 362 = .ok (.getfield 84, 3) := by decide +kernel
theorem dX8_init_365 : decode cX8_init 365 = .ok (.iload_n 1, 1) := by decide +kernel
theorem dX8_init_366 : decode cX8_init 366 = .ok (.iconst (-1), 1) := by decide +kernel
theorem dX8_init_367 : decode cX8_init 367 = .ok (.iastore, 1) := by decide +kernel
theorem dX8_init_368 : decode cX8_init 368 = .ok (.iinc 1 1, 3) := by decide +kernel
theorem dX8_init_371 : decode cX8_init 371 = .ok (.goto (-22), 3) := by decide +kernel
theorem dX8_init_374 : decode cX8_init 374 = .ok (.return_, 1) := by decide +kernel
theorem dX8_in_0 : decode cX8_in 0 = .ok (.lload_n 0, 1) := by decide +kernel
theorem dX8_in_1 : decode cX8_in 1 = .ok (.lload_n 2, 1) := by decide +kernel
theorem dX8_in_2 : decode cX8_in 2 = .ok (.lcmp, 1) := by decide +kernel
theorem dX8_in_3 : decode cX8_in 3 = .ok (.ifCond .lt 14, 3) := by decide +kernel
theorem dX8_in_6 : decode cX8_in 6 = .ok (.lload_n 0, 1) := by decide +kernel
theorem dX8_in_7 : decode cX8_in 7 = .ok (.lload 4, 2) := by decide +kernel
theorem dX8_in_9 : decode cX8_in 9 = .ok (.lcmp, 1) := by decide +kernel
theorem dX8_in_10 : decode cX8_in 10 = .ok (.ifCond .gt 7, 3) := by decide +kernel
theorem dX8_in_13 : decode cX8_in 13 = .ok (.iconst 1, 1) := by decide +kernel
theorem dX8_in_14 : decode cX8_in 14 = .ok (.goto 4, 3) := by decide +kernel
theorem dX8_in_17 : decode cX8_in 17 = .ok (.iconst 0, 1) := by decide +kernel
theorem dX8_in_18 : decode cX8_in 18 = .ok (.ireturn, 1) := by decide +kernel
theorem dX8_isAccount_0 : decode cX8_isAccount 0 = .ok (.iload_n 0, 1) := by decide +kernel
theorem dX8_isAccount_1 : decode cX8_isAccount 1 = .ok (.i2l, 1) := by decide +kernel
theorem dX8_isAccount_2 : decode cX8_isAccount 2 = .ok (.lconst 0, 1) := by decide +kernel
theorem dX8_isAccount_3 : decode cX8_isAccount 3 = .ok (.ldc2_w 121, 3) := by decide +kernel
theorem dX8_isAccount_6 : decode cX8_isAccount 6 = .ok (.invokestatic 123, 3) := by decide +kernel
theorem dX8_isAccount_9 : decode cX8_isAccount 9 = .ok (.ireturn, 1) := by decide +kernel
theorem dX8_isMember_0 : decode cX8_isMember 0 = .ok (.iload_n 1, 1) := by decide +kernel
theorem dX8_isMember_1 : decode cX8_isMember 1 = .ok (.i2l, 1) := by decide +kernel
theorem dX8_isMember_2 : decode cX8_isMember 2 = .ok (.lconst 0, 1) := by decide +kernel
theorem dX8_isMember_3 : decode cX8_isMember 3 = .ok (.aload_n 0, 1) := by decide +kernel
theorem dX8_isMember_4 : decode cX8_isMember 4 = .ok (.getfield 127, 3) := by decide +kernel
theorem dX8_isMember_7 : decode cX8_isMember 7 = .ok (.iconst 1, 1) := by decide +kernel
theorem dX8_isMember_8 : decode cX8_isMember 8 = .ok (.isub, 1) := by decide +kernel
theorem dX8_isMember_9 : decode cX8_isMember 9 = .ok (.i2l, 1) := by decide +kernel
theorem dX8_isMember_10 : decode cX8_isMember 10 = .ok (.invokestatic 123, 3) := by decide +kernel
theorem dX8_isMember_13 : decode cX8_isMember 13 = .ok (.ifCond .eq 19, 3) := by decide +kernel
theorem dX8_isMember_16 : decode cX8_isMember 16 = .ok (.iload_n 2, 1) := by decide +kernel
theorem dX8_isMember_17 : decode cX8_isMember 17 = .ok (.i2l, 1) := by decide +kernel
theorem dX8_isMember_18 : decode cX8_isMember 18 = .ok (.lconst 0, 1) := by decide +kernel
theorem dX8_isMember_19 : decode cX8_isMember 19 = .ok (.ldc2_w 131, 3) := by decide +kernel
theorem dX8_isMember_22 : decode cX8_isMember 22 = .ok (.invokestatic 123, 3) := by decide +kernel
theorem dX8_isMember_25 : decode cX8_isMember 25 = .ok (.ifCond .eq 7, 3) := by decide +kernel
theorem dX8_isMember_28 : decode cX8_isMember 28 = .ok (.iconst 1, 1) := by decide +kernel
theorem dX8_isMember_29 : decode cX8_isMember 29 = .ok (.goto 4, 3) := by decide +kernel
theorem dX8_isMember_32 : decode cX8_isMember 32 = .ok (.iconst 0, 1) := by decide +kernel
theorem dX8_isMember_33 : decode cX8_isMember 33 = .ok (.ireturn, 1) := by decide +kernel
theorem dX8_account_0 : decode cX8_account 0 = .ok (.iload_n 1, 1) := by decide +kernel
theorem dX8_account_1 : decode cX8_account 1 = .ok (.invokestatic 133, 3) := by decide +kernel
theorem dX8_account_4 : decode cX8_account 4 = .ok (.ifCond .eq 15, 3) := by decide +kernel
theorem dX8_account_7 : decode cX8_account 7 = .ok (.iload_n 2, 1) := by decide +kernel
theorem dX8_account_8 : decode cX8_account 8 = .ok (.i2l, 1) := by decide +kernel
theorem dX8_account_9 : decode cX8_account 9 = .ok (.lconst 0, 1) := by decide +kernel
theorem dX8_account_10 : decode cX8_account 10 = .ok (.ldc2_w 137, 3) := by decide +kernel
theorem dX8_account_13 : decode cX8_account 13 = .ok (.invokestatic 123, 3) := by decide +kernel
theorem dX8_account_16 : decode cX8_account 16 = .ok (.ifCond .ne 5, 3) := by decide +kernel
theorem dX8_account_19 : decode cX8_account 19 = .ok (.iconst (-1), 1) := by decide +kernel
theorem dX8_account_20 : decode cX8_account 20 = .ok (.ireturn, 1) := by decide +kernel
theorem dX8_account_21 : decode cX8_account 21 = .ok (.aload_n 0, 1) := by decide +kernel
theorem dX8_account_22 : decode cX8_account 22 = .ok (.getfield 7, 3) := by decide +kernel
theorem dX8_account_25 : decode cX8_account 25 = .ok (.iload_n 1, 1) := by decide +kernel
theorem dX8_account_26 : decode cX8_account 26 = .ok (.iload_n 2, 1) := by decide +kernel
theorem dX8_account_27 : decode cX8_account 27 = .ok (.iastore, 1) := by decide +kernel
theorem dX8_account_28 : decode cX8_account 28 = .ok (.iconst 1, 1) := by decide +kernel
theorem dX8_account_29 : decode cX8_account 29 = .ok (.ireturn, 1) := by decide +kernel
theorem dX8_contract_0 : decode cX8_contract 0 = .ok (.aload_n 0, 1) := by decide +kernel
theorem dX8_contract_1 : decode cX8_contract 1 = .ok (.getfield 127, 3) := by decide +kernel
theorem dX8_contract_4 : decode cX8_contract 4 = .ok (.iconst 4, 1) := by decide +kernel
theorem dX8_contract_5 : decode cX8_contract 5 = .ok (.if_icmp .ne 6, 3) := by decide +kernel
theorem dX8_contract_8 : decode cX8_contract 8 = .ok (.bipush (-2), 2) := by decide +kernel
theorem dX8_contract_10 : decode cX8_contract 10 = .ok (.ireturn, 1) := by decide +kernel
theorem dX8_contract_11 : decode cX8_contract 11 = .ok (.aload_n 0, 1) := by decide +kernel
theorem dX8_contract_12 : decode cX8_contract 12 = .ok (.dup, 1) := by decide +kernel
theorem dX8_contract_13 : decode cX8_contract 13 = .ok (.getfield 127, 3) := by decide +kernel
theorem dX8_contract_16 : decode cX8_contract 16 = .ok (.iconst 1, 1) := by decide +kernel
theorem dX8_contract_17 : decode cX8_contract 17 = .ok (.iadd, 1) := by decide +kernel
theorem dX8_contract_18 : decode cX8_contract 18 = .ok (.putfield 127, 3) := by decide +kernel
theorem dX8_contract_21 : decode cX8_contract 21 = .ok (.aload_n 0, 1) := by decide +kernel
theorem dX8_contract_22 : decode cX8_contract 22 = .ok (.getfield 127, 3) := by decide +kernel
theorem dX8_contract_25 : decode cX8_contract 25 = .ok (.iconst 1, 1) := by decide +kernel
theorem dX8_contract_26 : decode cX8_contract 26 = .ok (.isub, 1) := by decide +kernel
theorem dX8_contract_27 : decode cX8_contract 27 = .ok (.ireturn, 1) := by decide +kernel
theorem dX8_fits_0 : decode cX8_fits 0 = .ok (.iload_n 0, 1) := by decide +kernel
theorem dX8_fits_1 : decode cX8_fits 1 = .ok (.tableswitch 98 0 11 #[63, 63, 98, 63, 73, 83, 98, 88, 63, 88, 98, 63], 63) := by decide +kernel
theorem dX8_fits_64 : decode cX8_fits 64 = .ok (.iload_n 1, 1) := by decide +kernel
theorem dX8_fits_65 : decode cX8_fits 65 = .ok (.i2l, 1) := by decide +kernel
theorem dX8_fits_66 : decode cX8_fits 66 = .ok (.lconst 0, 1) := by decide +kernel
theorem dX8_fits_67 : decode cX8_fits 67 = .ok (.ldc2_w 139, 3) := by decide +kernel
theorem dX8_fits_70 : decode cX8_fits 70 = .ok (.invokestatic 123, 3) := by decide +kernel
theorem dX8_fits_73 : decode cX8_fits 73 = .ok (.ireturn, 1) := by decide +kernel
theorem dX8_fits_74 : decode cX8_fits 74 = .ok (.iload_n 1, 1) := by decide +kernel
theorem dX8_fits_75 : decode cX8_fits 75 = .ok (.i2l, 1) := by decide +kernel
theorem dX8_fits_76 : decode cX8_fits 76 = .ok (.lconst 0, 1) := by decide +kernel
theorem dX8_fits_77 : decode cX8_fits 77 = .ok (.ldc2_w 141, 3) := by decide +kernel
theorem dX8_fits_80 : decode cX8_fits 80 = .ok (.invokestatic 123, 3) := by decide +kernel
theorem dX8_fits_83 : decode cX8_fits 83 = .ok (.ireturn, 1) := by decide +kernel
theorem dX8_fits_84 : decode cX8_fits 84 = .ok (.iload_n 1, 1) := by decide +kernel
theorem dX8_fits_85 : decode cX8_fits 85 = .ok (.invokestatic 133, 3) := by decide +kernel
theorem dX8_fits_88 : decode cX8_fits 88 = .ok (.ireturn, 1) := by decide +kernel
theorem dX8_fits_89 : decode cX8_fits 89 = .ok (.iload_n 1, 1) := by decide +kernel
theorem dX8_fits_90 : decode cX8_fits 90 = .ok (.i2l, 1) := by decide +kernel
theorem dX8_fits_91 : decode cX8_fits 91 = .ok (.lconst 1, 1) := by decide +kernel
theorem dX8_fits_92 : decode cX8_fits 92 = .ok (.ldc2_w 143, 3) := by decide +kernel
theorem dX8_fits_95 : decode cX8_fits 95 = .ok (.invokestatic 123, 3) := by decide +kernel
theorem dX8_fits_98 : decode cX8_fits 98 = .ok (.ireturn, 1) := by decide +kernel
theorem dX8_fits_99 : decode cX8_fits 99 = .ok (.iconst 1, 1) := by decide +kernel
theorem dX8_fits_100 : decode cX8_fits 100 = .ok (.ireturn, 1) := by decide +kernel
theorem dX8_step_0 : decode cX8_step 0 = .ok (.aload_n 0, 1) := by decide +kernel
theorem dX8_step_1 : decode cX8_step 1 = .ok (.iload_n 1, 1) := by decide +kernel
theorem dX8_step_2 : decode cX8_step 2 = .ok (.iload_n 2, 1) := by decide +kernel
theorem dX8_step_3 : decode cX8_step 3 = .ok (.invokevirtual 145, 3) := by decide +kernel
theorem dX8_step_6 : decode cX8_step 6 = .ok (.ifCond .eq 24, 3) := by decide +kernel
theorem dX8_step_9 : decode cX8_step 9 = .ok (.iload_n 3, 1) := by decide +kernel
theorem dX8_step_10 : decode cX8_step 10 = .ok (.i2l, 1) := by decide +kernel
theorem dX8_step_11 : decode cX8_step 11 = .ok (.lconst 0, 1) := by decide +kernel
theorem dX8_step_12 : decode cX8_step 12 = .ok (.ldc2_w 121, 3) := by decide +kernel
theorem dX8_step_15 : decode cX8_step 15 = .ok (.invokestatic 123, 3) := by decide +kernel
theorem dX8_step_18 : decode cX8_step 18 = .ok (.ifCond .eq 12, 3) := by decide +kernel
theorem dX8_step_21 : decode cX8_step 21 = .ok (.iload_n 3, 1) := by decide +kernel
theorem dX8_step_22 : decode cX8_step 22 = .ok (.iload 4, 2) := by decide +kernel
theorem dX8_step_24 : decode cX8_step 24 = .ok (.invokestatic 149, 3) := by decide +kernel
theorem dX8_step_27 : decode cX8_step 27 = .ok (.ifCond .ne 5, 3) := by decide +kernel
theorem dX8_step_30 : decode cX8_step 30 = .ok (.iconst (-1), 1) := by decide +kernel
theorem dX8_step_31 : decode cX8_step 31 = .ok (.ireturn, 1) := by decide +kernel
theorem dX8_step_32 : decode cX8_step 32 = .ok (.iconst 3, 1) := by decide +kernel
theorem dX8_step_33 : decode cX8_step 33 = .ok (.iload_n 1, 1) := by decide +kernel
theorem dX8_step_34 : decode cX8_step 34 = .ok (.imul, 1) := by decide +kernel
theorem dX8_step_35 : decode cX8_step 35 = .ok (.iload_n 2, 1) := by decide +kernel
theorem dX8_step_36 : decode cX8_step 36 = .ok (.iadd, 1) := by decide +kernel
theorem dX8_step_37 : decode cX8_step 37 = .ok (.istore 6, 2) := by decide +kernel
theorem dX8_step_39 : decode cX8_step 39 = .ok (.aload_n 0, 1) := by decide +kernel
theorem dX8_step_40 : decode cX8_step 40 = .ok (.getfield 13, 3) := by decide +kernel
theorem dX8_step_43 : decode cX8_step 43 = .ok (.iload 6, 2) := by decide +kernel
theorem dX8_step_45 : decode cX8_step 45 = .ok (.iaload, 1) := by decide +kernel
theorem dX8_step_46 : decode cX8_step 46 = .ok (.bipush 8, 2) := by decide +kernel
theorem dX8_step_48 : decode cX8_step 48 = .ok (.if_icmp .ne 6, 3) := by decide +kernel
theorem dX8_step_51 : decode cX8_step 51 = .ok (.bipush (-2), 2) := by decide +kernel
theorem dX8_step_53 : decode cX8_step 53 = .ok (.ireturn, 1) := by decide +kernel
theorem dX8_step_54 : decode cX8_step 54 = .ok (.aload_n 0, 1) := by decide +kernel
theorem dX8_step_55 : decode cX8_step 55 = .ok (.getfield 16, 3) := by decide +kernel
theorem dX8_step_58 : decode cX8_step 58 = .ok (.bipush 8, 2) := by decide +kernel
theorem dX8_step_60 : decode cX8_step 60 = .ok (.iload 6, 2) := by decide +kernel
theorem dX8_step_62 : decode cX8_step 62 = .ok (.imul, 1) := by decide +kernel
theorem dX8_step_63 : decode cX8_step 63 = .ok (.aload_n 0, 1) := by decide +kernel
theorem dX8_step_64 : decode cX8_step 64 = .ok (.getfield 13, 3) := by decide +kernel
theorem dX8_step_67 : decode cX8_step 67 = .ok (.iload 6, 2) := by decide +kernel
theorem dX8_step_69 : decode cX8_step 69 = .ok (.iaload, 1) := by decide +kernel
theorem dX8_step_70 : decode cX8_step 70 = .ok (.iadd, 1) := by decide +kernel
theorem dX8_step_71 : decode cX8_step 71 = .ok (.iload_n 3, 1) := by decide +kernel
theorem dX8_step_72 : decode cX8_step 72 = .ok (.iastore, 1) := by decide +kernel
theorem dX8_step_73 : decode cX8_step 73 = .ok (.aload_n 0, 1) := by decide +kernel
theorem dX8_step_74 : decode cX8_step 74 = .ok (.getfield 19, 3) := by decide +kernel
theorem dX8_step_77 : decode cX8_step 77 = .ok (.bipush 8, 2) := by decide +kernel
theorem dX8_step_79 : decode cX8_step 79 = .ok (.iload 6, 2) := by decide +kernel
theorem dX8_step_81 : decode cX8_step 81 = .ok (.imul, 1) := by decide +kernel
theorem dX8_step_82 : decode cX8_step 82 = .ok (.aload_n 0, 1) := by decide +kernel
theorem dX8_step_83 : decode cX8_step 83 = .ok (.getfield 13, 3) := by decide +kernel
theorem dX8_step_86 : decode cX8_step 86 = .ok (.iload 6, 2) := by decide +kernel
theorem dX8_step_88 : decode cX8_step 88 = .ok (.iaload, 1) := by decide +kernel
theorem dX8_step_89 : decode cX8_step 89 = .ok (.iadd, 1) := by decide +kernel
theorem dX8_step_90 : decode cX8_step 90 = .ok (.iload 4, 2) := by decide +kernel
theorem dX8_step_92 : decode cX8_step 92 = .ok (.iastore, 1) := by decide +kernel
theorem dX8_step_93 : decode cX8_step 93 = .ok (.aload_n 0, 1) := by decide +kernel
theorem dX8_step_94 : decode cX8_step 94 = .ok (.getfield 22, 3) := by decide +kernel
theorem dX8_step_97 : decode cX8_step 97 = .ok (.bipush 8, 2) := by decide +kernel
theorem dX8_step_99 : decode cX8_step 99 = .ok (.iload 6, 2) := by decide +kernel
theorem dX8_step_101 : decode cX8_step 101 = .ok (.imul, 1) := by decide +kernel
theorem dX8_step_102 : decode cX8_step 102 = .ok (.aload_n 0, 1) := by decide +kernel
theorem dX8_step_103 : decode cX8_step 103 = .ok (.getfield 13, 3) := by decide +kernel
theorem dX8_step_106 : decode cX8_step 106 = .ok (.iload 6, 2) := by decide +kernel
theorem dX8_step_108 : decode cX8_step 108 = .ok (.iaload, 1) := by decide +kernel
theorem dX8_step_109 : decode cX8_step 109 = .ok (.iadd, 1) := by decide +kernel
theorem dX8_step_110 : decode cX8_step 110 = .ok (.iload 5, 2) := by decide +kernel
theorem dX8_step_112 : decode cX8_step 112 = .ok (.iastore, 1) := by decide +kernel
theorem dX8_step_113 : decode cX8_step 113 = .ok (.aload_n 0, 1) := by decide +kernel
theorem dX8_step_114 : decode cX8_step 114 = .ok (.getfield 13, 3) := by decide +kernel
theorem dX8_step_117 : decode cX8_step 117 = .ok (.iload 6, 2) := by decide +kernel
theorem dX8_step_119 : decode cX8_step 119 = .ok (.dup2, 1) := by decide +kernel
theorem dX8_step_120 : decode cX8_step 120 = .ok (.iaload, 1) := by decide +kernel
theorem dX8_step_121 : decode cX8_step 121 = .ok (.iconst 1, 1) := by decide +kernel
theorem dX8_step_122 : decode cX8_step 122 = .ok (.iadd, 1) := by decide +kernel
theorem dX8_step_123 : decode cX8_step 123 = .ok (.iastore, 1) := by decide +kernel
theorem dX8_step_124 : decode cX8_step 124 = .ok (.aload_n 0, 1) := by decide +kernel
theorem dX8_step_125 : decode cX8_step 125 = .ok (.getfield 13, 3) := by decide +kernel
theorem dX8_step_128 : decode cX8_step 128 = .ok (.iload 6, 2) := by decide +kernel
theorem dX8_step_130 : decode cX8_step 130 = .ok (.iaload, 1) := by decide +kernel
theorem dX8_step_131 : decode cX8_step 131 = .ok (.ireturn, 1) := by decide +kernel
theorem dX8_bind_0 : decode cX8_bind 0 = .ok (.iload_n 1, 1) := by decide +kernel
theorem dX8_bind_1 : decode cX8_bind 1 = .ok (.i2l, 1) := by decide +kernel
theorem dX8_bind_2 : decode cX8_bind 2 = .ok (.lconst 0, 1) := by decide +kernel
theorem dX8_bind_3 : decode cX8_bind 3 = .ok (.ldc2_w 139, 3) := by decide +kernel
theorem dX8_bind_6 : decode cX8_bind 6 = .ok (.invokestatic 123, 3) := by decide +kernel
theorem dX8_bind_9 : decode cX8_bind 9 = .ok (.ifCond .eq 17, 3) := by decide +kernel
theorem dX8_bind_12 : decode cX8_bind 12 = .ok (.iload_n 2, 1) := by decide +kernel
theorem dX8_bind_13 : decode cX8_bind 13 = .ok (.iconst (-1), 1) := by decide +kernel
theorem dX8_bind_14 : decode cX8_bind 14 = .ok (.if_icmp .eq 14, 3) := by decide +kernel
theorem dX8_bind_17 : decode cX8_bind 17 = .ok (.aload_n 0, 1) := by decide +kernel
theorem dX8_bind_18 : decode cX8_bind 18 = .ok (.iload_n 2, 1) := by decide +kernel
theorem dX8_bind_19 : decode cX8_bind 19 = .ok (.iload_n 3, 1) := by decide +kernel
theorem dX8_bind_20 : decode cX8_bind 20 = .ok (.invokevirtual 145, 3) := by decide +kernel
theorem dX8_bind_23 : decode cX8_bind 23 = .ok (.ifCond .ne 5, 3) := by decide +kernel
theorem dX8_bind_26 : decode cX8_bind 26 = .ok (.iconst (-1), 1) := by decide +kernel
theorem dX8_bind_27 : decode cX8_bind 27 = .ok (.ireturn, 1) := by decide +kernel
theorem dX8_bind_28 : decode cX8_bind 28 = .ok (.aload_n 0, 1) := by decide +kernel
theorem dX8_bind_29 : decode cX8_bind 29 = .ok (.getfield 28, 3) := by decide +kernel
theorem dX8_bind_32 : decode cX8_bind 32 = .ok (.iload_n 1, 1) := by decide +kernel
theorem dX8_bind_33 : decode cX8_bind 33 = .ok (.iload_n 2, 1) := by decide +kernel
theorem dX8_bind_34 : decode cX8_bind 34 = .ok (.ifCond .ge 7, 3) := by decide +kernel
theorem dX8_bind_37 : decode cX8_bind 37 = .ok (.iconst (-1), 1) := by decide +kernel
theorem dX8_bind_38 : decode cX8_bind 38 = .ok (.goto 8, 3) := by decide +kernel
theorem dX8_bind_41 : decode cX8_bind 41 = .ok (.iconst 3, 1) := by decide +kernel
theorem dX8_bind_42 : decode cX8_bind 42 = .ok (.iload_n 2, 1) := by decide +kernel
theorem dX8_bind_43 : decode cX8_bind 43 = .ok (.imul, 1) := by decide +kernel
theorem dX8_bind_44 : decode cX8_bind 44 = .ok (.iload_n 3, 1) := by decide +kernel
theorem dX8_bind_45 : decode cX8_bind 45 = .ok (.iadd, 1) := by decide +kernel
theorem dX8_bind_46 : decode cX8_bind 46 = .ok (.iastore, 1) := by decide +kernel
theorem dX8_bind_47 : decode cX8_bind 47 = .ok (.iconst 1, 1) := by decide +kernel
theorem dX8_bind_48 : decode cX8_bind 48 = .ok (.ireturn, 1) := by decide +kernel
theorem dX8_time_0 : decode cX8_time 0 = .ok (.iload_n 1, 1) := by decide +kernel
theorem dX8_time_1 : decode cX8_time 1 = .ok (.i2l, 1) := by decide +kernel
theorem dX8_time_2 : decode cX8_time 2 = .ok (.lconst 0, 1) := by decide +kernel
theorem dX8_time_3 : decode cX8_time 3 = .ok (.ldc2_w 152, 3) := by decide +kernel
theorem dX8_time_6 : decode cX8_time 6 = .ok (.invokestatic 123, 3) := by decide +kernel
theorem dX8_time_9 : decode cX8_time 9 = .ok (.ifCond .ne 5, 3) := by decide +kernel
theorem dX8_time_12 : decode cX8_time 12 = .ok (.iconst (-1), 1) := by decide +kernel
theorem dX8_time_13 : decode cX8_time 13 = .ok (.ireturn, 1) := by decide +kernel
theorem dX8_time_14 : decode cX8_time 14 = .ok (.aload_n 0, 1) := by decide +kernel
theorem dX8_time_15 : decode cX8_time 15 = .ok (.getfield 7, 3) := by decide +kernel
theorem dX8_time_18 : decode cX8_time 18 = .ok (.bipush 28, 2) := by decide +kernel
theorem dX8_time_20 : decode cX8_time 20 = .ok (.dup2, 1) := by decide +kernel
theorem dX8_time_21 : decode cX8_time 21 = .ok (.iaload, 1) := by decide +kernel
theorem dX8_time_22 : decode cX8_time 22 = .ok (.iload_n 1, 1) := by decide +kernel
theorem dX8_time_23 : decode cX8_time 23 = .ok (.iadd, 1) := by decide +kernel
theorem dX8_time_24 : decode cX8_time 24 = .ok (.iastore, 1) := by decide +kernel
theorem dX8_time_25 : decode cX8_time 25 = .ok (.aload_n 0, 1) := by decide +kernel
theorem dX8_time_26 : decode cX8_time 26 = .ok (.getfield 7, 3) := by decide +kernel
theorem dX8_time_29 : decode cX8_time 29 = .ok (.bipush 28, 2) := by decide +kernel
theorem dX8_time_31 : decode cX8_time 31 = .ok (.iaload, 1) := by decide +kernel
theorem dX8_time_32 : decode cX8_time 32 = .ok (.ireturn, 1) := by decide +kernel
theorem dX8_keep_0 : decode cX8_keep 0 = .ok (.iconst 0, 1) := by decide +kernel
theorem dX8_keep_1 : decode cX8_keep 1 = .ok (.istore_n 2, 1) := by decide +kernel
theorem dX8_keep_2 : decode cX8_keep 2 = .ok (.iload_n 2, 1) := by decide +kernel
theorem dX8_keep_3 : decode cX8_keep 3 = .ok (.bipush 70, 2) := by decide +kernel
theorem dX8_keep_5 : decode cX8_keep 5 = .ok (.if_icmp .ge 26, 3) := by decide +kernel
theorem dX8_keep_8 : decode cX8_keep 8 = .ok (.aload_n 0, 1) := by decide +kernel
theorem dX8_keep_9 : decode cX8_keep 9 = .ok (.getfield 65, 3) := by decide +kernel
theorem dX8_keep_12 : decode cX8_keep 12 = .ok (.bipush 70, 2) := by decide +kernel
theorem dX8_keep_14 : decode cX8_keep 14 = .ok (.iload_n 1, 1) := by decide +kernel
theorem dX8_keep_15 : decode cX8_keep 15 = .ok (.imul, 1) := by decide +kernel
theorem dX8_keep_16 : decode cX8_keep 16 = .ok (.iload_n 2, 1) := by decide +kernel
theorem dX8_keep_17 : decode cX8_keep 17 = .ok (.iadd, 1) := by decide +kernel
theorem dX8_keep_18 : decode cX8_keep 18 = .ok (.aload_n 0, 1) := by decide +kernel
theorem dX8_keep_19 : decode cX8_keep 19 = .ok (.getfield 7, 3) := by decide +kernel
theorem dX8_keep_22 : decode cX8_keep 22 = .ok (.iload_n 2, 1) := by decide +kernel
theorem dX8_keep_23 : decode cX8_keep 23 = .ok (.iaload, 1) := by decide +kernel
theorem dX8_keep_24 : decode cX8_keep 24 = .ok (.iastore, 1) := by decide +kernel
theorem dX8_keep_25 : decode cX8_keep 25 = .ok (.iinc 2 1, 3) := by decide +kernel
theorem dX8_keep_28 : decode cX8_keep 28 = .ok (.goto (-26), 3) := by decide +kernel
theorem dX8_keep_31 : decode cX8_keep 31 = .ok (.return_, 1) := by decide +kernel
theorem dX8_restore_0 : decode cX8_restore 0 = .ok (.iconst 0, 1) := by decide +kernel
theorem dX8_restore_1 : decode cX8_restore 1 = .ok (.istore_n 2, 1) := by decide +kernel
theorem dX8_restore_2 : decode cX8_restore 2 = .ok (.iload_n 2, 1) := by decide +kernel
theorem dX8_restore_3 : decode cX8_restore 3 = .ok (.bipush 70, 2) := by decide +kernel
theorem dX8_restore_5 : decode cX8_restore 5 = .ok (.if_icmp .ge 26, 3) := by decide +kernel
theorem dX8_restore_8 : decode cX8_restore 8 = .ok (.aload_n 0, 1) := by decide +kernel
theorem dX8_restore_9 : decode cX8_restore 9 = .ok (.getfield 7, 3) := by decide +kernel
theorem dX8_restore_12 : decode cX8_restore 12 = .ok (.iload_n 2, 1) := by decide +kernel
theorem dX8_restore_13 : decode cX8_restore 13 = .ok (.aload_n 0, 1) := by decide +kernel
theorem dX8_restore_14 : decode cX8_restore 14 = .ok (.getfield 65, 3) := by decide +kernel
theorem dX8_restore_17 : decode cX8_restore 17 = .ok (.bipush 70, 2) := by decide +kernel
theorem dX8_restore_19 : decode cX8_restore 19 = .ok (.iload_n 1, 1) := by decide +kernel
theorem dX8_restore_20 : decode cX8_restore 20 = .ok (.imul, 1) := by decide +kernel
theorem dX8_restore_21 : decode cX8_restore 21 = .ok (.iload_n 2, 1) := by decide +kernel
theorem dX8_restore_22 : decode cX8_restore 22 = .ok (.iadd, 1) := by decide +kernel
theorem dX8_restore_23 : decode cX8_restore 23 = .ok (.iaload, 1) := by decide +kernel
theorem dX8_restore_24 : decode cX8_restore 24 = .ok (.iastore, 1) := by decide +kernel
theorem dX8_restore_25 : decode cX8_restore 25 = .ok (.iinc 2 1, 3) := by decide +kernel
theorem dX8_restore_28 : decode cX8_restore 28 = .ok (.goto (-26), 3) := by decide +kernel
theorem dX8_restore_31 : decode cX8_restore 31 = .ok (.return_, 1) := by decide +kernel
theorem dX8_pay_0 : decode cX8_pay 0 = .ok (.iload_n 3, 1) := by decide +kernel
theorem dX8_pay_1 : decode cX8_pay 1 = .ok (.ifCond .lt 13, 3) := by decide +kernel
theorem dX8_pay_4 : decode cX8_pay 4 = .ok (.iload_n 3, 1) := by decide +kernel
theorem dX8_pay_5 : decode cX8_pay 5 = .ok (.aload_n 0, 1) := by decide +kernel
theorem dX8_pay_6 : decode cX8_pay 6 = .ok (.getfield 7, 3) := by decide +kernel
theorem dX8_pay_9 : decode cX8_pay 9 = .ok (.iload_n 1, 1) := by decide +kernel
theorem dX8_pay_10 : decode cX8_pay 10 = .ok (.iaload, 1) := by decide +kernel
theorem dX8_pay_11 : decode cX8_pay 11 = .ok (.if_icmp .le 5, 3) := by decide +kernel
theorem dX8_pay_14 : decode cX8_pay 14 = .ok (.iconst 1, 1) := by decide +kernel
theorem dX8_pay_15 : decode cX8_pay 15 = .ok (.ireturn, 1) := by decide +kernel
theorem dX8_pay_16 : decode cX8_pay 16 = .ok (.iload_n 1, 1) := by decide +kernel
theorem dX8_pay_17 : decode cX8_pay 17 = .ok (.iload_n 2, 1) := by decide +kernel
theorem dX8_pay_18 : decode cX8_pay 18 = .ok (.if_icmp .eq 42, 3) := by decide +kernel
theorem dX8_pay_21 : decode cX8_pay 21 = .ok (.aload_n 0, 1) := by decide +kernel
theorem dX8_pay_22 : decode cX8_pay 22 = .ok (.getfield 7, 3) := by decide +kernel
theorem dX8_pay_25 : decode cX8_pay 25 = .ok (.iload_n 2, 1) := by decide +kernel
theorem dX8_pay_26 : decode cX8_pay 26 = .ok (.iaload, 1) := by decide +kernel
theorem dX8_pay_27 : decode cX8_pay 27 = .ok (.i2l, 1) := by decide +kernel
theorem dX8_pay_28 : decode cX8_pay 28 = .ok (.iload_n 3, 1) := by decide +kernel
theorem dX8_pay_29 : decode cX8_pay 29 = .ok (.i2l, 1) := by decide +kernel
theorem dX8_pay_30 : decode cX8_pay 30 = .ok (.ladd, 1) := by decide +kernel
theorem dX8_pay_31 : decode cX8_pay 31 = .ok (.ldc2_w 137, 3) := by decide +kernel
theorem dX8_pay_34 : decode cX8_pay 34 = .ok (.lcmp, 1) := by decide +kernel
theorem dX8_pay_35 : decode cX8_pay 35 = .ok (.ifCond .le 5, 3) := by decide +kernel
theorem dX8_pay_38 : decode cX8_pay 38 = .ok (.iconst 2, 1) := by decide +kernel
theorem dX8_pay_39 : decode cX8_pay 39 = .ok (.ireturn, 1) := by decide +kernel
theorem dX8_pay_40 : decode cX8_pay 40 = .ok (.aload_n 0, 1) := by decide +kernel
theorem dX8_pay_41 : decode cX8_pay 41 = .ok (.getfield 7, 3) := by decide +kernel
theorem dX8_pay_44 : decode cX8_pay 44 = .ok (.iload_n 1, 1) := by decide +kernel
theorem dX8_pay_45 : decode cX8_pay 45 = .ok (.dup2, 1) := by decide +kernel
theorem dX8_pay_46 : decode cX8_pay 46 = .ok (.iaload, 1) := by decide +kernel
theorem dX8_pay_47 : decode cX8_pay 47 = .ok (.iload_n 3, 1) := by decide +kernel
theorem dX8_pay_48 : decode cX8_pay 48 = .ok (.isub, 1) := by decide +kernel
theorem dX8_pay_49 : decode cX8_pay 49 = .ok (.iastore, 1) := by decide +kernel
theorem dX8_pay_50 : decode cX8_pay 50 = .ok (.aload_n 0, 1) := by decide +kernel
theorem dX8_pay_51 : decode cX8_pay 51 = .ok (.getfield 7, 3) := by decide +kernel
theorem dX8_pay_54 : decode cX8_pay 54 = .ok (.iload_n 2, 1) := by decide +kernel
theorem dX8_pay_55 : decode cX8_pay 55 = .ok (.dup2, 1) := by decide +kernel
theorem dX8_pay_56 : decode cX8_pay 56 = .ok (.iaload, 1) := by decide +kernel
theorem dX8_pay_57 : decode cX8_pay 57 = .ok (.iload_n 3, 1) := by decide +kernel
theorem dX8_pay_58 : decode cX8_pay 58 = .ok (.iadd, 1) := by decide +kernel
theorem dX8_pay_59 : decode cX8_pay 59 = .ok (.iastore, 1) := by decide +kernel
theorem dX8_pay_60 : decode cX8_pay 60 = .ok (.iconst 0, 1) := by decide +kernel
theorem dX8_pay_61 : decode cX8_pay 61 = .ok (.ireturn, 1) := by decide +kernel
theorem dX8_enter_0 : decode cX8_enter 0 = .ok (.aload_n 0, 1) := by decide +kernel
theorem dX8_enter_1 : decode cX8_enter 1 = .ok (.getfield 50, 3) := by decide +kernel
theorem dX8_enter_4 : decode cX8_enter 4 = .ok (.aload_n 0, 1) := by decide +kernel
theorem dX8_enter_5 : decode cX8_enter 5 = .ok (.getfield 154, 3) := by decide +kernel
theorem dX8_enter_8 : decode cX8_enter 8 = .ok (.iload_n 1, 1) := by decide +kernel
theorem dX8_enter_9 : decode cX8_enter 9 = .ok (.iastore, 1) := by decide +kernel
theorem dX8_enter_10 : decode cX8_enter 10 = .ok (.aload_n 0, 1) := by decide +kernel
theorem dX8_enter_11 : decode cX8_enter 11 = .ok (.getfield 53, 3) := by decide +kernel
theorem dX8_enter_14 : decode cX8_enter 14 = .ok (.aload_n 0, 1) := by decide +kernel
theorem dX8_enter_15 : decode cX8_enter 15 = .ok (.getfield 154, 3) := by decide +kernel
theorem dX8_enter_18 : decode cX8_enter 18 = .ok (.iload_n 2, 1) := by decide +kernel
theorem dX8_enter_19 : decode cX8_enter 19 = .ok (.iastore, 1) := by decide +kernel
theorem dX8_enter_20 : decode cX8_enter 20 = .ok (.aload_n 0, 1) := by decide +kernel
theorem dX8_enter_21 : decode cX8_enter 21 = .ok (.getfield 56, 3) := by decide +kernel
theorem dX8_enter_24 : decode cX8_enter 24 = .ok (.aload_n 0, 1) := by decide +kernel
theorem dX8_enter_25 : decode cX8_enter 25 = .ok (.getfield 154, 3) := by decide +kernel
theorem dX8_enter_28 : decode cX8_enter 28 = .ok (.iconst 0, 1) := by decide +kernel
theorem dX8_enter_29 : decode cX8_enter 29 = .ok (.iastore, 1) := by decide +kernel
theorem dX8_enter_30 : decode cX8_enter 30 = .ok (.aload_n 0, 1) := by decide +kernel
theorem dX8_enter_31 : decode cX8_enter 31 = .ok (.getfield 59, 3) := by decide +kernel
theorem dX8_enter_34 : decode cX8_enter 34 = .ok (.aload_n 0, 1) := by decide +kernel
theorem dX8_enter_35 : decode cX8_enter 35 = .ok (.getfield 154, 3) := by decide +kernel
theorem dX8_enter_38 : decode cX8_enter 38 = .ok (.iconst 0, 1) := by decide +kernel
theorem dX8_enter_39 : decode cX8_enter 39 = .ok (.iastore, 1) := by decide +kernel
theorem dX8_enter_40 : decode cX8_enter 40 = .ok (.aload_n 0, 1) := by decide +kernel
theorem dX8_enter_41 : decode cX8_enter 41 = .ok (.dup, 1) := by decide +kernel
theorem dX8_enter_42 : decode cX8_enter 42 = .ok (.getfield 154, 3) := by decide +kernel
theorem dX8_enter_45 : decode cX8_enter 45 = .ok (.iconst 1, 1) := by decide +kernel
theorem dX8_enter_46 : decode cX8_enter 46 = .ok (.iadd, 1) := by decide +kernel
theorem dX8_enter_47 : decode cX8_enter 47 = .ok (.putfield 154, 3) := by decide +kernel
theorem dX8_enter_50 : decode cX8_enter 50 = .ok (.return_, 1) := by decide +kernel
theorem dX8_raise_0 : decode cX8_raise 0 = .ok (.iload_n 1, 1) := by decide +kernel
theorem dX8_raise_1 : decode cX8_raise 1 = .ok (.istore_n 3, 1) := by decide +kernel
theorem dX8_raise_2 : decode cX8_raise 2 = .ok (.iload_n 2, 1) := by decide +kernel
theorem dX8_raise_3 : decode cX8_raise 3 = .ok (.istore 4, 2) := by decide +kernel
theorem dX8_raise_5 : decode cX8_raise 5 = .ok (.aload_n 0, 1) := by decide +kernel
theorem dX8_raise_6 : decode cX8_raise 6 = .ok (.getfield 154, 3) := by decide +kernel
theorem dX8_raise_9 : decode cX8_raise 9 = .ok (.ifCond .le 132, 3) := by decide +kernel
theorem dX8_raise_12 : decode cX8_raise 12 = .ok (.aload_n 0, 1) := by decide +kernel
theorem dX8_raise_13 : decode cX8_raise 13 = .ok (.getfield 154, 3) := by decide +kernel
theorem dX8_raise_16 : decode cX8_raise 16 = .ok (.iconst 1, 1) := by decide +kernel
theorem dX8_raise_17 : decode cX8_raise 17 = .ok (.isub, 1) := by decide +kernel
theorem dX8_raise_18 : decode cX8_raise 18 = .ok (.istore 5, 2) := by decide +kernel
theorem dX8_raise_20 : decode cX8_raise 20 = .ok (.iload_n 3, 1) := by decide +kernel
theorem dX8_raise_21 : decode cX8_raise 21 = .ok (.bipush 7, 2) := by decide +kernel
theorem dX8_raise_23 : decode cX8_raise 23 = .ok (.if_icmp .eq 77, 3) := by decide +kernel
theorem dX8_raise_26 : decode cX8_raise 26 = .ok (.aload_n 0, 1) := by decide +kernel
theorem dX8_raise_27 : decode cX8_raise 27 = .ok (.getfield 59, 3) := by decide +kernel
theorem dX8_raise_30 : decode cX8_raise 30 = .ok (.iload 5, 2) := by decide +kernel
theorem dX8_raise_32 : decode cX8_raise 32 = .ok (.iaload, 1) := by decide +kernel
theorem dX8_raise_33 : decode cX8_raise 33 = .ok (.ifCond .le 67, 3) := by decide +kernel
theorem dX8_raise_36 : decode cX8_raise 36 = .ok (.aload_n 0, 1) := by decide +kernel
theorem dX8_raise_37 : decode cX8_raise 37 = .ok (.getfield 59, 3) := by decide +kernel
theorem dX8_raise_40 : decode cX8_raise 40 = .ok (.iload 5, 2) := by decide +kernel
theorem dX8_raise_42 : decode cX8_raise 42 = .ok (.dup2, 1) := by decide +kernel
theorem dX8_raise_43 : decode cX8_raise 43 = .ok (.iaload, 1) := by decide +kernel
theorem dX8_raise_44 : decode cX8_raise 44 = .ok (.iconst 1, 1) := by decide +kernel
theorem dX8_raise_45 : decode cX8_raise 45 = .ok (.isub, 1) := by decide +kernel
theorem dX8_raise_46 : decode cX8_raise 46 = .ok (.iastore, 1) := by decide +kernel
theorem dX8_raise_47 : decode cX8_raise 47 = .ok (.aload_n 0, 1) := by decide +kernel
theorem dX8_raise_48 : decode cX8_raise 48 = .ok (.bipush 10, 2) := by decide +kernel
theorem dX8_raise_50 : decode cX8_raise 50 = .ok (.iload 5, 2) := by decide +kernel
theorem dX8_raise_52 : decode cX8_raise 52 = .ok (.imul, 1) := by decide +kernel
theorem dX8_raise_53 : decode cX8_raise 53 = .ok (.iconst 1, 1) := by decide +kernel
theorem dX8_raise_54 : decode cX8_raise 54 = .ok (.iadd, 1) := by decide +kernel
theorem dX8_raise_55 : decode cX8_raise 55 = .ok (.aload_n 0, 1) := by decide +kernel
theorem dX8_raise_56 : decode cX8_raise 56 = .ok (.getfield 59, 3) := by decide +kernel
theorem dX8_raise_59 : decode cX8_raise 59 = .ok (.iload 5, 2) := by decide +kernel
theorem dX8_raise_61 : decode cX8_raise 61 = .ok (.iaload, 1) := by decide +kernel
theorem dX8_raise_62 : decode cX8_raise 62 = .ok (.iadd, 1) := by decide +kernel
theorem dX8_raise_63 : decode cX8_raise 63 = .ok (.invokevirtual 157, 3) := by decide +kernel
theorem dX8_raise_66 : decode cX8_raise 66 = .ok (.aload_n 0, 1) := by decide +kernel
theorem dX8_raise_67 : decode cX8_raise 67 = .ok (.getfield 53, 3) := by decide +kernel
theorem dX8_raise_70 : decode cX8_raise 70 = .ok (.iload 5, 2) := by decide +kernel
theorem dX8_raise_72 : decode cX8_raise 72 = .ok (.iload_n 3, 1) := by decide +kernel
theorem dX8_raise_73 : decode cX8_raise 73 = .ok (.iastore, 1) := by decide +kernel
theorem dX8_raise_74 : decode cX8_raise 74 = .ok (.aload_n 0, 1) := by decide +kernel
theorem dX8_raise_75 : decode cX8_raise 75 = .ok (.getfield 56, 3) := by decide +kernel
theorem dX8_raise_78 : decode cX8_raise 78 = .ok (.iload 5, 2) := by decide +kernel
theorem dX8_raise_80 : decode cX8_raise 80 = .ok (.aload_n 0, 1) := by decide +kernel
theorem dX8_raise_81 : decode cX8_raise 81 = .ok (.getfield 62, 3) := by decide +kernel
theorem dX8_raise_84 : decode cX8_raise 84 = .ok (.bipush 10, 2) := by decide +kernel
theorem dX8_raise_86 : decode cX8_raise 86 = .ok (.iload 5, 2) := by decide +kernel
theorem dX8_raise_88 : decode cX8_raise 88 = .ok (.imul, 1) := by decide +kernel
theorem dX8_raise_89 : decode cX8_raise 89 = .ok (.aload_n 0, 1) := by decide +kernel
theorem dX8_raise_90 : decode cX8_raise 90 = .ok (.getfield 59, 3) := by decide +kernel
theorem dX8_raise_93 : decode cX8_raise 93 = .ok (.iload 5, 2) := by decide +kernel
theorem dX8_raise_95 : decode cX8_raise 95 = .ok (.iaload, 1) := by decide +kernel
theorem dX8_raise_96 : decode cX8_raise 96 = .ok (.iadd, 1) := by decide +kernel
theorem dX8_raise_97 : decode cX8_raise 97 = .ok (.iaload, 1) := by decide +kernel
theorem dX8_raise_98 : decode cX8_raise 98 = .ok (.iastore, 1) := by decide +kernel
theorem dX8_raise_99 : decode cX8_raise 99 = .ok (.return_, 1) := by decide +kernel
theorem dX8_raise_100 : decode cX8_raise 100 = .ok (.aload_n 0, 1) := by decide +kernel
theorem dX8_raise_101 : decode cX8_raise 101 = .ok (.bipush 10, 2) := by decide +kernel
theorem dX8_raise_103 : decode cX8_raise 103 = .ok (.iload 5, 2) := by decide +kernel
theorem dX8_raise_105 : decode cX8_raise 105 = .ok (.imul, 1) := by decide +kernel
theorem dX8_raise_106 : decode cX8_raise 106 = .ok (.invokevirtual 157, 3) := by decide +kernel
theorem dX8_raise_109 : decode cX8_raise 109 = .ok (.aload_n 0, 1) := by decide +kernel
theorem dX8_raise_110 : decode cX8_raise 110 = .ok (.dup, 1) := by decide +kernel
theorem dX8_raise_111 : decode cX8_raise 111 = .ok (.getfield 154, 3) := by decide +kernel
theorem dX8_raise_114 : decode cX8_raise 114 = .ok (.iconst 1, 1) := by decide +kernel
theorem dX8_raise_115 : decode cX8_raise 115 = .ok (.isub, 1) := by decide +kernel
theorem dX8_raise_116 : decode cX8_raise 116 = .ok (.putfield 154, 3) := by decide +kernel
theorem dX8_raise_119 : decode cX8_raise 119 = .ok (.iload_n 3, 1) := by decide +kernel
theorem dX8_raise_120 : decode cX8_raise 120 = .ok (.bipush 7, 2) := by decide +kernel
theorem dX8_raise_122 : decode cX8_raise 122 = .ok (.if_icmp .eq 10, 3) := by decide +kernel
theorem dX8_raise_125 : decode cX8_raise 125 = .ok (.aload_n 0, 1) := by decide +kernel
theorem dX8_raise_126 : decode cX8_raise 126 = .ok (.getfield 154, 3) := by decide +kernel
theorem dX8_raise_129 : decode cX8_raise 129 = .ok (.ifCond .ne 7, 3) := by decide +kernel
theorem dX8_raise_132 : decode cX8_raise 132 = .ok (.iload_n 3, 1) := by decide +kernel
theorem dX8_raise_133 : decode cX8_raise 133 = .ok (.goto 4, 3) := by decide +kernel
theorem dX8_raise_136 : decode cX8_raise 136 = .ok (.iconst 5, 1) := by decide +kernel
theorem dX8_raise_137 : decode cX8_raise 137 = .ok (.istore_n 3, 1) := by decide +kernel
theorem dX8_raise_138 : decode cX8_raise 138 = .ok (.goto (-133), 3) := by decide +kernel
theorem dX8_raise_141 : decode cX8_raise 141 = .ok (.aload_n 0, 1) := by decide +kernel
theorem dX8_raise_142 : decode cX8_raise 142 = .ok (.iload_n 3, 1) := by decide +kernel
theorem dX8_raise_143 : decode cX8_raise 143 = .ok (.putfield 161, 3) := by decide +kernel
theorem dX8_raise_146 : decode cX8_raise 146 = .ok (.aload_n 0, 1) := by decide +kernel
theorem dX8_raise_147 : decode cX8_raise 147 = .ok (.iload 4, 2) := by decide +kernel
theorem dX8_raise_149 : decode cX8_raise 149 = .ok (.putfield 164, 3) := by decide +kernel
theorem dX8_raise_152 : decode cX8_raise 152 = .ok (.aload_n 0, 1) := by decide +kernel
theorem dX8_raise_153 : decode cX8_raise 153 = .ok (.iconst 1, 1) := by decide +kernel
theorem dX8_raise_154 : decode cX8_raise 154 = .ok (.putfield 167, 3) := by decide +kernel
theorem dX8_raise_157 : decode cX8_raise 157 = .ok (.return_, 1) := by decide +kernel
theorem dX8_end_0 : decode cX8_end 0 = .ok (.aload_n 0, 1) := by decide +kernel
theorem dX8_end_1 : decode cX8_end 1 = .ok (.getfield 59, 3) := by decide +kernel
theorem dX8_end_4 : decode cX8_end 4 = .ok (.iload_n 1, 1) := by decide +kernel
theorem dX8_end_5 : decode cX8_end 5 = .ok (.iaload, 1) := by decide +kernel
theorem dX8_end_6 : decode cX8_end 6 = .ok (.ifCond .le 24, 3) := by decide +kernel
theorem dX8_end_9 : decode cX8_end 9 = .ok (.aload_n 0, 1) := by decide +kernel
theorem dX8_end_10 : decode cX8_end 10 = .ok (.getfield 62, 3) := by decide +kernel
theorem dX8_end_13 : decode cX8_end 13 = .ok (.bipush 10, 2) := by decide +kernel
theorem dX8_end_15 : decode cX8_end 15 = .ok (.iload_n 1, 1) := by decide +kernel
theorem dX8_end_16 : decode cX8_end 16 = .ok (.imul, 1) := by decide +kernel
theorem dX8_end_17 : decode cX8_end 17 = .ok (.aload_n 0, 1) := by decide +kernel
theorem dX8_end_18 : decode cX8_end 18 = .ok (.getfield 59, 3) := by decide +kernel
theorem dX8_end_21 : decode cX8_end 21 = .ok (.iload_n 1, 1) := by decide +kernel
theorem dX8_end_22 : decode cX8_end 22 = .ok (.iaload, 1) := by decide +kernel
theorem dX8_end_23 : decode cX8_end 23 = .ok (.iadd, 1) := by decide +kernel
theorem dX8_end_24 : decode cX8_end 24 = .ok (.iconst 1, 1) := by decide +kernel
theorem dX8_end_25 : decode cX8_end 25 = .ok (.isub, 1) := by decide +kernel
theorem dX8_end_26 : decode cX8_end 26 = .ok (.iaload, 1) := by decide +kernel
theorem dX8_end_27 : decode cX8_end 27 = .ok (.goto 14, 3) := by decide +kernel
theorem dX8_end_30 : decode cX8_end 30 = .ok (.aload_n 0, 1) := by decide +kernel
theorem dX8_end_31 : decode cX8_end 31 = .ok (.getfield 13, 3) := by decide +kernel
theorem dX8_end_34 : decode cX8_end 34 = .ok (.aload_n 0, 1) := by decide +kernel
theorem dX8_end_35 : decode cX8_end 35 = .ok (.getfield 50, 3) := by decide +kernel
theorem dX8_end_38 : decode cX8_end 38 = .ok (.iload_n 1, 1) := by decide +kernel
theorem dX8_end_39 : decode cX8_end 39 = .ok (.iaload, 1) := by decide +kernel
theorem dX8_end_40 : decode cX8_end 40 = .ok (.iaload, 1) := by decide +kernel
theorem dX8_end_41 : decode cX8_end 41 = .ok (.ireturn, 1) := by decide +kernel
theorem dX8_goOn_0 : decode cX8_goOn 0 = .ok (.aload_n 0, 1) := by decide +kernel
theorem dX8_goOn_1 : decode cX8_goOn 1 = .ok (.getfield 154, 3) := by decide +kernel
theorem dX8_goOn_4 : decode cX8_goOn 4 = .ok (.iconst 1, 1) := by decide +kernel
theorem dX8_goOn_5 : decode cX8_goOn 5 = .ok (.isub, 1) := by decide +kernel
theorem dX8_goOn_6 : decode cX8_goOn 6 = .ok (.istore_n 1, 1) := by decide +kernel
theorem dX8_goOn_7 : decode cX8_goOn 7 = .ok (.aload_n 0, 1) := by decide +kernel
theorem dX8_goOn_8 : decode cX8_goOn 8 = .ok (.getfield 56, 3) := by decide +kernel
theorem dX8_goOn_11 : decode cX8_goOn 11 = .ok (.iload_n 1, 1) := by decide +kernel
theorem dX8_goOn_12 : decode cX8_goOn 12 = .ok (.iaload, 1) := by decide +kernel
theorem dX8_goOn_13 : decode cX8_goOn 13 = .ok (.aload_n 0, 1) := by decide +kernel
theorem dX8_goOn_14 : decode cX8_goOn 14 = .ok (.iload_n 1, 1) := by decide +kernel
theorem dX8_goOn_15 : decode cX8_goOn 15 = .ok (.invokevirtual 171, 3) := by decide +kernel
theorem dX8_goOn_18 : decode cX8_goOn 18 = .ok (.if_icmp .ne 76, 3) := by decide +kernel
theorem dX8_goOn_21 : decode cX8_goOn 21 = .ok (.aload_n 0, 1) := by decide +kernel
theorem dX8_goOn_22 : decode cX8_goOn 22 = .ok (.getfield 59, 3) := by decide +kernel
theorem dX8_goOn_25 : decode cX8_goOn 25 = .ok (.iload_n 1, 1) := by decide +kernel
theorem dX8_goOn_26 : decode cX8_goOn 26 = .ok (.iaload, 1) := by decide +kernel
theorem dX8_goOn_27 : decode cX8_goOn 27 = .ok (.ifCond .le 14, 3) := by decide +kernel
theorem dX8_goOn_30 : decode cX8_goOn 30 = .ok (.aload_n 0, 1) := by decide +kernel
theorem dX8_goOn_31 : decode cX8_goOn 31 = .ok (.getfield 59, 3) := by decide +kernel
theorem dX8_goOn_34 : decode cX8_goOn 34 = .ok (.iload_n 1, 1) := by decide +kernel
theorem dX8_goOn_35 : decode cX8_goOn 35 = .ok (.dup2, 1) := by decide +kernel
theorem dX8_goOn_36 : decode cX8_goOn 36 = .ok (.iaload, 1) := by decide +kernel
theorem dX8_goOn_37 : decode cX8_goOn 37 = .ok (.iconst 1, 1) := by decide +kernel
theorem dX8_goOn_38 : decode cX8_goOn 38 = .ok (.isub, 1) := by decide +kernel
theorem dX8_goOn_39 : decode cX8_goOn 39 = .ok (.iastore, 1) := by decide +kernel
theorem dX8_goOn_40 : decode cX8_goOn 40 = .ok (.return_, 1) := by decide +kernel
theorem dX8_goOn_41 : decode cX8_goOn 41 = .ok (.aload_n 0, 1) := by decide +kernel
theorem dX8_goOn_42 : decode cX8_goOn 42 = .ok (.dup, 1) := by decide +kernel
theorem dX8_goOn_43 : decode cX8_goOn 43 = .ok (.getfield 154, 3) := by decide +kernel
theorem dX8_goOn_46 : decode cX8_goOn 46 = .ok (.iconst 1, 1) := by decide +kernel
theorem dX8_goOn_47 : decode cX8_goOn 47 = .ok (.isub, 1) := by decide +kernel
theorem dX8_goOn_48 : decode cX8_goOn 48 = .ok (.putfield 154, 3) := by decide +kernel
theorem dX8_goOn_51 : decode cX8_goOn 51 = .ok (.aload_n 0, 1) := by decide +kernel
theorem dX8_goOn_52 : decode cX8_goOn 52 = .ok (.getfield 154, 3) := by decide +kernel
theorem dX8_goOn_55 : decode cX8_goOn 55 = .ok (.ifCond .ne 21, 3) := by decide +kernel
theorem dX8_goOn_58 : decode cX8_goOn 58 = .ok (.aload_n 0, 1) := by decide +kernel
theorem dX8_goOn_59 : decode cX8_goOn 59 = .ok (.aload_n 0, 1) := by decide +kernel
theorem dX8_goOn_60 : decode cX8_goOn 60 = .ok (.getfield 53, 3) := by decide +kernel
theorem dX8_goOn_63 : decode cX8_goOn 63 = .ok (.iload_n 1, 1) := by decide +kernel
theorem dX8_goOn_64 : decode cX8_goOn 64 = .ok (.iaload, 1) := by decide +kernel
theorem dX8_goOn_65 : decode cX8_goOn 65 = .ok (.putfield 175, 3) := by decide +kernel
theorem dX8_goOn_68 : decode cX8_goOn 68 = .ok (.aload_n 0, 1) := by decide +kernel
theorem dX8_goOn_69 : decode cX8_goOn 69 = .ok (.iconst 1, 1) := by decide +kernel
theorem dX8_goOn_70 : decode cX8_goOn 70 = .ok (.putfield 167, 3) := by decide +kernel
theorem dX8_goOn_73 : decode cX8_goOn 73 = .ok (.goto 20, 3) := by decide +kernel
theorem dX8_goOn_76 : decode cX8_goOn 76 = .ok (.aload_n 0, 1) := by decide +kernel
theorem dX8_goOn_77 : decode cX8_goOn 77 = .ok (.getfield 53, 3) := by decide +kernel
theorem dX8_goOn_80 : decode cX8_goOn 80 = .ok (.aload_n 0, 1) := by decide +kernel
theorem dX8_goOn_81 : decode cX8_goOn 81 = .ok (.getfield 154, 3) := by decide +kernel
theorem dX8_goOn_84 : decode cX8_goOn 84 = .ok (.iconst 1, 1) := by decide +kernel
theorem dX8_goOn_85 : decode cX8_goOn 85 = .ok (.isub, 1) := by decide +kernel
theorem dX8_goOn_86 : decode cX8_goOn 86 = .ok (.aload_n 0, 1) := by decide +kernel
theorem dX8_goOn_87 : decode cX8_goOn 87 = .ok (.getfield 53, 3) := by decide +kernel
theorem dX8_goOn_90 : decode cX8_goOn 90 = .ok (.iload_n 1, 1) := by decide +kernel
theorem dX8_goOn_91 : decode cX8_goOn 91 = .ok (.iaload, 1) := by decide +kernel
theorem dX8_goOn_92 : decode cX8_goOn 92 = .ok (.iastore, 1) := by decide +kernel
theorem dX8_goOn_93 : decode cX8_goOn 93 = .ok (.return_, 1) := by decide +kernel
theorem dX8_goOn_94 : decode cX8_goOn 94 = .ok (.aload_n 0, 1) := by decide +kernel
theorem dX8_goOn_95 : decode cX8_goOn 95 = .ok (.getfield 178, 3) := by decide +kernel
theorem dX8_goOn_98 : decode cX8_goOn 98 = .ok (.bipush 100, 2) := by decide +kernel
theorem dX8_goOn_100 : decode cX8_goOn 100 = .ok (.if_icmp .eq 14, 3) := by decide +kernel
theorem dX8_goOn_103 : decode cX8_goOn 103 = .ok (.aload_n 0, 1) := by decide +kernel
theorem dX8_goOn_104 : decode cX8_goOn 104 = .ok (.getfield 181, 3) := by decide +kernel
theorem dX8_goOn_107 : decode cX8_goOn 107 = .ok (.ldc2_w 185, 3) := by decide +kernel
theorem dX8_goOn_110 : decode cX8_goOn 110 = .ok (.lcmp, 1) := by decide +kernel
theorem dX8_goOn_111 : decode cX8_goOn 111 = .ok (.ifCond .ne 12, 3) := by decide +kernel
theorem dX8_goOn_114 : decode cX8_goOn 114 = .ok (.aload_n 0, 1) := by decide +kernel
theorem dX8_goOn_115 : decode cX8_goOn 115 = .ok (.bipush 7, 2) := by decide +kernel
theorem dX8_goOn_117 : decode cX8_goOn 117 = .ok (.bipush 7, 2) := by decide +kernel
theorem dX8_goOn_119 : decode cX8_goOn 119 = .ok (.invokevirtual 187, 3) := by decide +kernel
theorem dX8_goOn_122 : decode cX8_goOn 122 = .ok (.return_, 1) := by decide +kernel
theorem dX8_goOn_123 : decode cX8_goOn 123 = .ok (.aload_n 0, 1) := by decide +kernel
theorem dX8_goOn_124 : decode cX8_goOn 124 = .ok (.dup, 1) := by decide +kernel
theorem dX8_goOn_125 : decode cX8_goOn 125 = .ok (.getfield 178, 3) := by decide +kernel
theorem dX8_goOn_128 : decode cX8_goOn 128 = .ok (.iconst 1, 1) := by decide +kernel
theorem dX8_goOn_129 : decode cX8_goOn 129 = .ok (.iadd, 1) := by decide +kernel
theorem dX8_goOn_130 : decode cX8_goOn 130 = .ok (.putfield 178, 3) := by decide +kernel
theorem dX8_goOn_133 : decode cX8_goOn 133 = .ok (.aload_n 0, 1) := by decide +kernel
theorem dX8_goOn_134 : decode cX8_goOn 134 = .ok (.dup, 1) := by decide +kernel
theorem dX8_goOn_135 : decode cX8_goOn 135 = .ok (.getfield 181, 3) := by decide +kernel
theorem dX8_goOn_138 : decode cX8_goOn 138 = .ok (.lconst 1, 1) := by decide +kernel
theorem dX8_goOn_139 : decode cX8_goOn 139 = .ok (.ladd, 1) := by decide +kernel
theorem dX8_goOn_140 : decode cX8_goOn 140 = .ok (.putfield 181, 3) := by decide +kernel
theorem dX8_goOn_143 : decode cX8_goOn 143 = .ok (.bipush 8, 2) := by decide +kernel
theorem dX8_goOn_145 : decode cX8_goOn 145 = .ok (.aload_n 0, 1) := by decide +kernel
theorem dX8_goOn_146 : decode cX8_goOn 146 = .ok (.getfield 50, 3) := by decide +kernel
theorem dX8_goOn_149 : decode cX8_goOn 149 = .ok (.iload_n 1, 1) := by decide +kernel
theorem dX8_goOn_150 : decode cX8_goOn 150 = .ok (.iaload, 1) := by decide +kernel
theorem dX8_goOn_151 : decode cX8_goOn 151 = .ok (.imul, 1) := by decide +kernel
theorem dX8_goOn_152 : decode cX8_goOn 152 = .ok (.aload_n 0, 1) := by decide +kernel
theorem dX8_goOn_153 : decode cX8_goOn 153 = .ok (.getfield 56, 3) := by decide +kernel
theorem dX8_goOn_156 : decode cX8_goOn 156 = .ok (.iload_n 1, 1) := by decide +kernel
theorem dX8_goOn_157 : decode cX8_goOn 157 = .ok (.iaload, 1) := by decide +kernel
theorem dX8_goOn_158 : decode cX8_goOn 158 = .ok (.iadd, 1) := by decide +kernel
theorem dX8_goOn_159 : decode cX8_goOn 159 = .ok (.istore_n 2, 1) := by decide +kernel
theorem dX8_goOn_160 : decode cX8_goOn 160 = .ok (.aload_n 0, 1) := by decide +kernel
theorem dX8_goOn_161 : decode cX8_goOn 161 = .ok (.getfield 25, 3) := by decide +kernel
theorem dX8_goOn_164 : decode cX8_goOn 164 = .ok (.aload_n 0, 1) := by decide +kernel
theorem dX8_goOn_165 : decode cX8_goOn 165 = .ok (.getfield 50, 3) := by decide +kernel
theorem dX8_goOn_168 : decode cX8_goOn 168 = .ok (.iload_n 1, 1) := by decide +kernel
theorem dX8_goOn_169 : decode cX8_goOn 169 = .ok (.iaload, 1) := by decide +kernel
theorem dX8_goOn_170 : decode cX8_goOn 170 = .ok (.dup2, 1) := by decide +kernel
theorem dX8_goOn_171 : decode cX8_goOn 171 = .ok (.iaload, 1) := by decide +kernel
theorem dX8_goOn_172 : decode cX8_goOn 172 = .ok (.iconst 1, 1) := by decide +kernel
theorem dX8_goOn_173 : decode cX8_goOn 173 = .ok (.aload_n 0, 1) := by decide +kernel
theorem dX8_goOn_174 : decode cX8_goOn 174 = .ok (.getfield 56, 3) := by decide +kernel
theorem dX8_goOn_177 : decode cX8_goOn 177 = .ok (.iload_n 1, 1) := by decide +kernel
theorem dX8_goOn_178 : decode cX8_goOn 178 = .ok (.iaload, 1) := by decide +kernel
theorem dX8_goOn_179 : decode cX8_goOn 179 = .ok (.ishl, 1) := by decide +kernel
theorem dX8_goOn_180 : decode cX8_goOn 180 = .ok (.ior, 1) := by decide +kernel
theorem dX8_goOn_181 : decode cX8_goOn 181 = .ok (.iastore, 1) := by decide +kernel
theorem dX8_goOn_182 : decode cX8_goOn 182 = .ok (.aload_n 0, 1) := by decide +kernel
theorem dX8_goOn_183 : decode cX8_goOn 183 = .ok (.getfield 56, 3) := by decide +kernel
theorem dX8_goOn_186 : decode cX8_goOn 186 = .ok (.iload_n 1, 1) := by decide +kernel
theorem dX8_goOn_187 : decode cX8_goOn 187 = .ok (.dup2, 1) := by decide +kernel
theorem dX8_goOn_188 : decode cX8_goOn 188 = .ok (.iaload, 1) := by decide +kernel
theorem dX8_goOn_189 : decode cX8_goOn 189 = .ok (.iconst 1, 1) := by decide +kernel
theorem dX8_goOn_190 : decode cX8_goOn 190 = .ok (.iadd, 1) := by decide +kernel
theorem dX8_goOn_191 : decode cX8_goOn 191 = .ok (.iastore, 1) := by decide +kernel
theorem dX8_goOn_192 : decode cX8_goOn 192 = .ok (.aload_n 0, 1) := by decide +kernel
theorem dX8_goOn_193 : decode cX8_goOn 193 = .ok (.iload_n 1, 1) := by decide +kernel
theorem dX8_goOn_194 : decode cX8_goOn 194 = .ok (.iload_n 2, 1) := by decide +kernel
theorem dX8_goOn_195 : decode cX8_goOn 195 = .ok (.aload_n 0, 1) := by decide +kernel
theorem dX8_goOn_196 : decode cX8_goOn 196 = .ok (.getfield 191, 3) := by decide +kernel
theorem dX8_goOn_199 : decode cX8_goOn 199 = .ok (.ifCond .le 18, 3) := by decide +kernel
theorem dX8_goOn_202 : decode cX8_goOn 202 = .ok (.iload_n 2, 1) := by decide +kernel
theorem dX8_goOn_203 : decode cX8_goOn 203 = .ok (.aload_n 0, 1) := by decide +kernel
theorem dX8_goOn_204 : decode cX8_goOn 204 = .ok (.getfield 194, 3) := by decide +kernel
theorem dX8_goOn_207 : decode cX8_goOn 207 = .ok (.if_icmp .ne 10, 3) := by decide +kernel
theorem dX8_goOn_210 : decode cX8_goOn 210 = .ok (.aload_n 0, 1) := by decide +kernel
theorem dX8_goOn_211 : decode cX8_goOn 211 = .ok (.getfield 191, 3) := by decide +kernel
theorem dX8_goOn_214 : decode cX8_goOn 214 = .ok (.goto 4, 3) := by decide +kernel
theorem dX8_goOn_217 : decode cX8_goOn 217 = .ok (.iconst 0, 1) := by decide +kernel
theorem dX8_goOn_218 : decode cX8_goOn 218 = .ok (.invokevirtual 197, 3) := by decide +kernel
theorem dX8_goOn_221 : decode cX8_goOn 221 = .ok (.return_, 1) := by decide +kernel
theorem dX8_pass_0 : decode cX8_pass 0 = .ok (.aload_n 0, 1) := by decide +kernel
theorem dX8_pass_1 : decode cX8_pass 1 = .ok (.getfield 25, 3) := by decide +kernel
theorem dX8_pass_4 : decode cX8_pass 4 = .ok (.aload_n 0, 1) := by decide +kernel
theorem dX8_pass_5 : decode cX8_pass 5 = .ok (.getfield 50, 3) := by decide +kernel
theorem dX8_pass_8 : decode cX8_pass 8 = .ok (.iload_n 1, 1) := by decide +kernel
theorem dX8_pass_9 : decode cX8_pass 9 = .ok (.iaload, 1) := by decide +kernel
theorem dX8_pass_10 : decode cX8_pass 10 = .ok (.dup2, 1) := by decide +kernel
theorem dX8_pass_11 : decode cX8_pass 11 = .ok (.iaload, 1) := by decide +kernel
theorem dX8_pass_12 : decode cX8_pass 12 = .ok (.iconst 1, 1) := by decide +kernel
theorem dX8_pass_13 : decode cX8_pass 13 = .ok (.iload_n 2, 1) := by decide +kernel
theorem dX8_pass_14 : decode cX8_pass 14 = .ok (.iload_n 3, 1) := by decide +kernel
theorem dX8_pass_15 : decode cX8_pass 15 = .ok (.ifCond .eq 8, 3) := by decide +kernel
theorem dX8_pass_18 : decode cX8_pass 18 = .ok (.bipush 8, 2) := by decide +kernel
theorem dX8_pass_20 : decode cX8_pass 20 = .ok (.goto 5, 3) := by decide +kernel
theorem dX8_pass_23 : decode cX8_pass 23 = .ok (.bipush 16, 2) := by decide +kernel
theorem dX8_pass_25 : decode cX8_pass 25 = .ok (.iadd, 1) := by decide +kernel
theorem dX8_pass_26 : decode cX8_pass 26 = .ok (.ishl, 1) := by decide +kernel
theorem dX8_pass_27 : decode cX8_pass 27 = .ok (.ior, 1) := by decide +kernel
theorem dX8_pass_28 : decode cX8_pass 28 = .ok (.iastore, 1) := by decide +kernel
theorem dX8_pass_29 : decode cX8_pass 29 = .ok (.aload_n 0, 1) := by decide +kernel
theorem dX8_pass_30 : decode cX8_pass 30 = .ok (.getfield 56, 3) := by decide +kernel
theorem dX8_pass_33 : decode cX8_pass 33 = .ok (.iload_n 1, 1) := by decide +kernel
theorem dX8_pass_34 : decode cX8_pass 34 = .ok (.iaload, 1) := by decide +kernel
theorem dX8_pass_35 : decode cX8_pass 35 = .ok (.iload 4, 2) := by decide +kernel
theorem dX8_pass_37 : decode cX8_pass 37 = .ok (.iadd, 1) := by decide +kernel
theorem dX8_pass_38 : decode cX8_pass 38 = .ok (.istore 5, 2) := by decide +kernel
theorem dX8_pass_40 : decode cX8_pass 40 = .ok (.aload_n 0, 1) := by decide +kernel
theorem dX8_pass_41 : decode cX8_pass 41 = .ok (.getfield 56, 3) := by decide +kernel
theorem dX8_pass_44 : decode cX8_pass 44 = .ok (.iload_n 1, 1) := by decide +kernel
theorem dX8_pass_45 : decode cX8_pass 45 = .ok (.iload_n 3, 1) := by decide +kernel
theorem dX8_pass_46 : decode cX8_pass 46 = .ok (.ifCond .eq 26, 3) := by decide +kernel
theorem dX8_pass_49 : decode cX8_pass 49 = .ok (.iload 5, 2) := by decide +kernel
theorem dX8_pass_51 : decode cX8_pass 51 = .ok (.aload_n 0, 1) := by decide +kernel
theorem dX8_pass_52 : decode cX8_pass 52 = .ok (.iload_n 1, 1) := by decide +kernel
theorem dX8_pass_53 : decode cX8_pass 53 = .ok (.invokevirtual 171, 3) := by decide +kernel
theorem dX8_pass_56 : decode cX8_pass 56 = .ok (.if_icmp .ge 8, 3) := by decide +kernel
theorem dX8_pass_59 : decode cX8_pass 59 = .ok (.iload 5, 2) := by decide +kernel
theorem dX8_pass_61 : decode cX8_pass 61 = .ok (.goto 17, 3) := by decide +kernel
theorem dX8_pass_64 : decode cX8_pass 64 = .ok (.aload_n 0, 1) := by decide +kernel
theorem dX8_pass_65 : decode cX8_pass 65 = .ok (.iload_n 1, 1) := by decide +kernel
theorem dX8_pass_66 : decode cX8_pass 66 = .ok (.invokevirtual 171, 3) := by decide +kernel
theorem dX8_pass_69 : decode cX8_pass 69 = .ok (.goto 9, 3) := by decide +kernel
theorem dX8_pass_72 : decode cX8_pass 72 = .ok (.aload_n 0, 1) := by decide +kernel
theorem dX8_pass_73 : decode cX8_pass 73 = .ok (.getfield 56, 3) := by decide +kernel
theorem dX8_pass_76 : decode cX8_pass 76 = .ok (.iload_n 1, 1) := by decide +kernel
theorem dX8_pass_77 : decode cX8_pass 77 = .ok (.iaload, 1) := by decide +kernel
theorem dX8_pass_78 : decode cX8_pass 78 = .ok (.iastore, 1) := by decide +kernel
theorem dX8_pass_79 : decode cX8_pass 79 = .ok (.return_, 1) := by decide +kernel
theorem dX8_work_0 : decode cX8_work 0 = .ok (.aload_n 0, 1) := by decide +kernel
theorem dX8_work_1 : decode cX8_work 1 = .ok (.getfield 16, 3) := by decide +kernel
theorem dX8_work_4 : decode cX8_work 4 = .ok (.iload_n 2, 1) := by decide +kernel
theorem dX8_work_5 : decode cX8_work 5 = .ok (.iaload, 1) := by decide +kernel
theorem dX8_work_6 : decode cX8_work 6 = .ok (.istore 4, 2) := by decide +kernel
theorem dX8_work_8 : decode cX8_work 8 = .ok (.aload_n 0, 1) := by decide +kernel
theorem dX8_work_9 : decode cX8_work 9 = .ok (.getfield 19, 3) := by decide +kernel
theorem dX8_work_12 : decode cX8_work 12 = .ok (.iload_n 2, 1) := by decide +kernel
theorem dX8_work_13 : decode cX8_work 13 = .ok (.iaload, 1) := by decide +kernel
theorem dX8_work_14 : decode cX8_work 14 = .ok (.istore 5, 2) := by decide +kernel
theorem dX8_work_16 : decode cX8_work 16 = .ok (.aload_n 0, 1) := by decide +kernel
theorem dX8_work_17 : decode cX8_work 17 = .ok (.getfield 22, 3) := by decide +kernel
theorem dX8_work_20 : decode cX8_work 20 = .ok (.iload_n 2, 1) := by decide +kernel
theorem dX8_work_21 : decode cX8_work 21 = .ok (.iaload, 1) := by decide +kernel
theorem dX8_work_22 : decode cX8_work 22 = .ok (.istore 6, 2) := by decide +kernel
theorem dX8_work_24 : decode cX8_work 24 = .ok (.bipush 12, 2) := by decide +kernel
theorem dX8_work_26 : decode cX8_work 26 = .ok (.iconst 4, 1) := by decide +kernel
theorem dX8_work_27 : decode cX8_work 27 = .ok (.aload_n 0, 1) := by decide +kernel
theorem dX8_work_28 : decode cX8_work 28 = .ok (.getfield 50, 3) := by decide +kernel
theorem dX8_work_31 : decode cX8_work 31 = .ok (.iload_n 1, 1) := by decide +kernel
theorem dX8_work_32 : decode cX8_work 32 = .ok (.iaload, 1) := by decide +kernel
theorem dX8_work_33 : decode cX8_work 33 = .ok (.iconst 3, 1) := by decide +kernel
theorem dX8_work_34 : decode cX8_work 34 = .ok (.idiv, 1) := by decide +kernel
theorem dX8_work_35 : decode cX8_work 35 = .ok (.imul, 1) := by decide +kernel
theorem dX8_work_36 : decode cX8_work 36 = .ok (.iadd, 1) := by decide +kernel
theorem dX8_work_37 : decode cX8_work 37 = .ok (.iload 5, 2) := by decide +kernel
theorem dX8_work_39 : decode cX8_work 39 = .ok (.iadd, 1) := by decide +kernel
theorem dX8_work_40 : decode cX8_work 40 = .ok (.istore 7, 2) := by decide +kernel
theorem dX8_work_42 : decode cX8_work 42 = .ok (.aload_n 0, 1) := by decide +kernel
theorem dX8_work_43 : decode cX8_work 43 = .ok (.getfield 53, 3) := by decide +kernel
theorem dX8_work_46 : decode cX8_work 46 = .ok (.iload_n 1, 1) := by decide +kernel
theorem dX8_work_47 : decode cX8_work 47 = .ok (.iaload, 1) := by decide +kernel
theorem dX8_work_48 : decode cX8_work 48 = .ok (.istore 8, 2) := by decide +kernel
theorem dX8_work_50 : decode cX8_work 50 = .ok (.iload_n 3, 1) := by decide +kernel
theorem dX8_work_51 : decode cX8_work 51 = .ok (.ifCond .le 29, 3) := by decide +kernel
theorem dX8_work_54 : decode cX8_work 54 = .ok (.iload 4, 2) := by decide +kernel
theorem dX8_work_56 : decode cX8_work 56 = .ok (.iconst 2, 1) := by decide +kernel
theorem dX8_work_57 : decode cX8_work 57 = .ok (.if_icmp .eq 23, 3) := by decide +kernel
theorem dX8_work_60 : decode cX8_work 60 = .ok (.iload 4, 2) := by decide +kernel
theorem dX8_work_62 : decode cX8_work 62 = .ok (.iconst 4, 1) := by decide +kernel
theorem dX8_work_63 : decode cX8_work 63 = .ok (.if_icmp .eq 17, 3) := by decide +kernel
theorem dX8_work_66 : decode cX8_work 66 = .ok (.iload 4, 2) := by decide +kernel
theorem dX8_work_68 : decode cX8_work 68 = .ok (.bipush 7, 2) := by decide +kernel
theorem dX8_work_70 : decode cX8_work 70 = .ok (.if_icmp .eq 10, 3) := by decide +kernel
theorem dX8_work_73 : decode cX8_work 73 = .ok (.iload 4, 2) := by decide +kernel
theorem dX8_work_75 : decode cX8_work 75 = .ok (.iconst 5, 1) := by decide +kernel
theorem dX8_work_76 : decode cX8_work 76 = .ok (.if_icmp .eq 4, 3) := by decide +kernel
theorem dX8_work_79 : decode cX8_work 79 = .ok (.return_, 1) := by decide +kernel
theorem dX8_work_80 : decode cX8_work 80 = .ok (.iload 4, 2) := by decide +kernel
theorem dX8_work_82 : decode cX8_work 82 = .ok (.tableswitch 444 0 10 #[58, 70, 86, 127, 146, 187, 238, 281, 337, 347, 428], 58) := by decide +kernel
theorem dX8_work_140 : decode cX8_work 140 = .ok (.aload_n 0, 1) := by decide +kernel
theorem dX8_work_141 : decode cX8_work 141 = .ok (.getfield 7, 3) := by decide +kernel
theorem dX8_work_144 : decode cX8_work 144 = .ok (.iload 7, 2) := by decide +kernel
theorem dX8_work_146 : decode cX8_work 146 = .ok (.iload 8, 2) := by decide +kernel
theorem dX8_work_148 : decode cX8_work 148 = .ok (.iastore, 1) := by decide +kernel
theorem dX8_work_149 : decode cX8_work 149 = .ok (.goto 431, 3) := by decide +kernel
theorem dX8_work_152 : decode cX8_work 152 = .ok (.aload_n 0, 1) := by decide +kernel
theorem dX8_work_153 : decode cX8_work 153 = .ok (.getfield 53, 3) := by decide +kernel
theorem dX8_work_156 : decode cX8_work 156 = .ok (.iload_n 1, 1) := by decide +kernel
theorem dX8_work_157 : decode cX8_work 157 = .ok (.aload_n 0, 1) := by decide +kernel
theorem dX8_work_158 : decode cX8_work 158 = .ok (.getfield 7, 3) := by decide +kernel
theorem dX8_work_161 : decode cX8_work 161 = .ok (.iload 7, 2) := by decide +kernel
theorem dX8_work_163 : decode cX8_work 163 = .ok (.iaload, 1) := by decide +kernel
theorem dX8_work_164 : decode cX8_work 164 = .ok (.iastore, 1) := by decide +kernel
theorem dX8_work_165 : decode cX8_work 165 = .ok (.goto 415, 3) := by decide +kernel
theorem dX8_work_168 : decode cX8_work 168 = .ok (.aload_n 0, 1) := by decide +kernel
theorem dX8_work_169 : decode cX8_work 169 = .ok (.getfield 53, 3) := by decide +kernel
theorem dX8_work_172 : decode cX8_work 172 = .ok (.iload_n 1, 1) := by decide +kernel
theorem dX8_work_173 : decode cX8_work 173 = .ok (.iload_n 3, 1) := by decide +kernel
theorem dX8_work_174 : decode cX8_work 174 = .ok (.ifCond .ne 11, 3) := by decide +kernel
theorem dX8_work_177 : decode cX8_work 177 = .ok (.iload 8, 2) := by decide +kernel
theorem dX8_work_179 : decode cX8_work 179 = .ok (.iload 6, 2) := by decide +kernel
theorem dX8_work_181 : decode cX8_work 181 = .ok (.iadd, 1) := by decide +kernel
theorem dX8_work_182 : decode cX8_work 182 = .ok (.goto 23, 3) := by decide +kernel
theorem dX8_work_185 : decode cX8_work 185 = .ok (.iload_n 3, 1) := by decide +kernel
theorem dX8_work_186 : decode cX8_work 186 = .ok (.iconst 1, 1) := by decide +kernel
theorem dX8_work_187 : decode cX8_work 187 = .ok (.if_icmp .ne 13, 3) := by decide +kernel
theorem dX8_work_190 : decode cX8_work 190 = .ok (.iload 8, 2) := by decide +kernel
theorem dX8_work_192 : decode cX8_work 192 = .ok (.iload 6, 2) := by decide +kernel
theorem dX8_work_194 : decode cX8_work 194 = .ok (.iconst 1, 1) := by decide +kernel
theorem dX8_work_195 : decode cX8_work 195 = .ok (.iadd, 1) := by decide +kernel
theorem dX8_work_196 : decode cX8_work 196 = .ok (.iadd, 1) := by decide +kernel
theorem dX8_work_197 : decode cX8_work 197 = .ok (.goto 8, 3) := by decide +kernel
theorem dX8_work_200 : decode cX8_work 200 = .ok (.iload 8, 2) := by decide +kernel
theorem dX8_work_202 : decode cX8_work 202 = .ok (.iload 6, 2) := by decide +kernel
theorem dX8_work_204 : decode cX8_work 204 = .ok (.isub, 1) := by decide +kernel
theorem dX8_work_205 : decode cX8_work 205 = .ok (.iastore, 1) := by decide +kernel
theorem dX8_work_206 : decode cX8_work 206 = .ok (.goto 374, 3) := by decide +kernel
theorem dX8_work_209 : decode cX8_work 209 = .ok (.aload_n 0, 1) := by decide +kernel
theorem dX8_work_210 : decode cX8_work 210 = .ok (.getfield 53, 3) := by decide +kernel
theorem dX8_work_213 : decode cX8_work 213 = .ok (.iload_n 1, 1) := by decide +kernel
theorem dX8_work_214 : decode cX8_work 214 = .ok (.iload 8, 2) := by decide +kernel
theorem dX8_work_216 : decode cX8_work 216 = .ok (.aload_n 0, 1) := by decide +kernel
theorem dX8_work_217 : decode cX8_work 217 = .ok (.getfield 7, 3) := by decide +kernel
theorem dX8_work_220 : decode cX8_work 220 = .ok (.iload 7, 2) := by decide +kernel
theorem dX8_work_222 : decode cX8_work 222 = .ok (.iaload, 1) := by decide +kernel
theorem dX8_work_223 : decode cX8_work 223 = .ok (.isub, 1) := by decide +kernel
theorem dX8_work_224 : decode cX8_work 224 = .ok (.iastore, 1) := by decide +kernel
theorem dX8_work_225 : decode cX8_work 225 = .ok (.goto 355, 3) := by decide +kernel
theorem dX8_work_228 : decode cX8_work 228 = .ok (.iload_n 3, 1) := by decide +kernel
theorem dX8_work_229 : decode cX8_work 229 = .ok (.iconst 2, 1) := by decide +kernel
theorem dX8_work_230 : decode cX8_work 230 = .ok (.if_icmp .ge 350, 3) := by decide +kernel
theorem dX8_work_233 : decode cX8_work 233 = .ok (.iload 8, 2) := by decide +kernel
theorem dX8_work_235 : decode cX8_work 235 = .ok (.iload_n 3, 1) := by decide +kernel
theorem dX8_work_236 : decode cX8_work 236 = .ok (.iconst 1, 1) := by decide +kernel
theorem dX8_work_237 : decode cX8_work 237 = .ok (.if_icmp .ne 10, 3) := by decide +kernel
theorem dX8_work_240 : decode cX8_work 240 = .ok (.iload 6, 2) := by decide +kernel
theorem dX8_work_242 : decode cX8_work 242 = .ok (.iconst 1, 1) := by decide +kernel
theorem dX8_work_243 : decode cX8_work 243 = .ok (.iadd, 1) := by decide +kernel
theorem dX8_work_244 : decode cX8_work 244 = .ok (.goto 5, 3) := by decide +kernel
theorem dX8_work_247 : decode cX8_work 247 = .ok (.iload 6, 2) := by decide +kernel
theorem dX8_work_249 : decode cX8_work 249 = .ok (.if_icmp .ge 331, 3) := by decide +kernel
theorem dX8_work_252 : decode cX8_work 252 = .ok (.aload_n 0, 1) := by decide +kernel
theorem dX8_work_253 : decode cX8_work 253 = .ok (.bipush 10, 2) := by decide +kernel
theorem dX8_work_255 : decode cX8_work 255 = .ok (.iload 5, 2) := by decide +kernel
theorem dX8_work_257 : decode cX8_work 257 = .ok (.iadd, 1) := by decide +kernel
theorem dX8_work_258 : decode cX8_work 258 = .ok (.bipush 10, 2) := by decide +kernel
theorem dX8_work_260 : decode cX8_work 260 = .ok (.iload 5, 2) := by decide +kernel
theorem dX8_work_262 : decode cX8_work 262 = .ok (.iadd, 1) := by decide +kernel
theorem dX8_work_263 : decode cX8_work 263 = .ok (.invokevirtual 187, 3) := by decide +kernel
theorem dX8_work_266 : decode cX8_work 266 = .ok (.goto 314, 3) := by decide +kernel
theorem dX8_work_269 : decode cX8_work 269 = .ok (.aload_n 0, 1) := by decide +kernel
theorem dX8_work_270 : decode cX8_work 270 = .ok (.bipush 8, 2) := by decide +kernel
theorem dX8_work_272 : decode cX8_work 272 = .ok (.aload_n 0, 1) := by decide +kernel
theorem dX8_work_273 : decode cX8_work 273 = .ok (.getfield 50, 3) := by decide +kernel
theorem dX8_work_276 : decode cX8_work 276 = .ok (.iload_n 1, 1) := by decide +kernel
theorem dX8_work_277 : decode cX8_work 277 = .ok (.iaload, 1) := by decide +kernel
theorem dX8_work_278 : decode cX8_work 278 = .ok (.iconst 3, 1) := by decide +kernel
theorem dX8_work_279 : decode cX8_work 279 = .ok (.idiv, 1) := by decide +kernel
theorem dX8_work_280 : decode cX8_work 280 = .ok (.iadd, 1) := by decide +kernel
theorem dX8_work_281 : decode cX8_work 281 = .ok (.iload_n 3, 1) := by decide +kernel
theorem dX8_work_282 : decode cX8_work 282 = .ok (.ifCond .ne 8, 3) := by decide +kernel
theorem dX8_work_285 : decode cX8_work 285 = .ok (.iload 5, 2) := by decide +kernel
theorem dX8_work_287 : decode cX8_work 287 = .ok (.goto 10, 3) := by decide +kernel
theorem dX8_work_290 : decode cX8_work 290 = .ok (.iload 5, 2) := by decide +kernel
theorem dX8_work_292 : decode cX8_work 292 = .ok (.iconst 1, 1) := by decide +kernel
theorem dX8_work_293 : decode cX8_work 293 = .ok (.iadd, 1) := by decide +kernel
theorem dX8_work_294 : decode cX8_work 294 = .ok (.bipush 12, 2) := by decide +kernel
theorem dX8_work_296 : decode cX8_work 296 = .ok (.irem, 1) := by decide +kernel
theorem dX8_work_297 : decode cX8_work 297 = .ok (.iload 8, 2) := by decide +kernel
theorem dX8_work_299 : decode cX8_work 299 = .ok (.invokevirtual 201, 3) := by decide +kernel
theorem dX8_work_302 : decode cX8_work 302 = .ok (.istore 9, 2) := by decide +kernel
theorem dX8_work_304 : decode cX8_work 304 = .ok (.iload 9, 2) := by decide +kernel
theorem dX8_work_306 : decode cX8_work 306 = .ok (.ifCond .le 274, 3) := by decide +kernel
theorem dX8_work_309 : decode cX8_work 309 = .ok (.aload_n 0, 1) := by decide +kernel
theorem dX8_work_310 : decode cX8_work 310 = .ok (.iload 9, 2) := by decide +kernel
theorem dX8_work_312 : decode cX8_work 312 = .ok (.iload 9, 2) := by decide +kernel
theorem dX8_work_314 : decode cX8_work 314 = .ok (.invokevirtual 187, 3) := by decide +kernel
theorem dX8_work_317 : decode cX8_work 317 = .ok (.goto 263, 3) := by decide +kernel
theorem dX8_work_320 : decode cX8_work 320 = .ok (.aload_n 0, 1) := by decide +kernel
theorem dX8_work_321 : decode cX8_work 321 = .ok (.getfield 7, 3) := by decide +kernel
theorem dX8_work_324 : decode cX8_work 324 = .ok (.bipush 29, 2) := by decide +kernel
theorem dX8_work_326 : decode cX8_work 326 = .ok (.iaload, 1) := by decide +kernel
theorem dX8_work_327 : decode cX8_work 327 = .ok (.bipush 40, 2) := by decide +kernel
theorem dX8_work_329 : decode cX8_work 329 = .ok (.if_icmp .ge 251, 3) := by decide +kernel
theorem dX8_work_332 : decode cX8_work 332 = .ok (.aload_n 0, 1) := by decide +kernel
theorem dX8_work_333 : decode cX8_work 333 = .ok (.getfield 7, 3) := by decide +kernel
theorem dX8_work_336 : decode cX8_work 336 = .ok (.bipush 30, 2) := by decide +kernel
theorem dX8_work_338 : decode cX8_work 338 = .ok (.aload_n 0, 1) := by decide +kernel
theorem dX8_work_339 : decode cX8_work 339 = .ok (.getfield 7, 3) := by decide +kernel
theorem dX8_work_342 : decode cX8_work 342 = .ok (.bipush 29, 2) := by decide +kernel
theorem dX8_work_344 : decode cX8_work 344 = .ok (.iaload, 1) := by decide +kernel
theorem dX8_work_345 : decode cX8_work 345 = .ok (.iadd, 1) := by decide +kernel
theorem dX8_work_346 : decode cX8_work 346 = .ok (.iload 8, 2) := by decide +kernel
theorem dX8_work_348 : decode cX8_work 348 = .ok (.iastore, 1) := by decide +kernel
theorem dX8_work_349 : decode cX8_work 349 = .ok (.aload_n 0, 1) := by decide +kernel
theorem dX8_work_350 : decode cX8_work 350 = .ok (.getfield 7, 3) := by decide +kernel
theorem dX8_work_353 : decode cX8_work 353 = .ok (.bipush 29, 2) := by decide +kernel
theorem dX8_work_355 : decode cX8_work 355 = .ok (.dup2, 1) := by decide +kernel
theorem dX8_work_356 : decode cX8_work 356 = .ok (.iaload, 1) := by decide +kernel
theorem dX8_work_357 : decode cX8_work 357 = .ok (.iconst 1, 1) := by decide +kernel
theorem dX8_work_358 : decode cX8_work 358 = .ok (.iadd, 1) := by decide +kernel
theorem dX8_work_359 : decode cX8_work 359 = .ok (.iastore, 1) := by decide +kernel
theorem dX8_work_360 : decode cX8_work 360 = .ok (.goto 220, 3) := by decide +kernel
theorem dX8_work_363 : decode cX8_work 363 = .ok (.aload_n 0, 1) := by decide +kernel
theorem dX8_work_364 : decode cX8_work 364 = .ok (.iload_n 1, 1) := by decide +kernel
theorem dX8_work_365 : decode cX8_work 365 = .ok (.iload_n 2, 1) := by decide +kernel
theorem dX8_work_366 : decode cX8_work 366 = .ok (.bipush 8, 2) := by decide +kernel
theorem dX8_work_368 : decode cX8_work 368 = .ok (.irem, 1) := by decide +kernel
theorem dX8_work_369 : decode cX8_work 369 = .ok (.iload 8, 2) := by decide +kernel
theorem dX8_work_371 : decode cX8_work 371 = .ok (.iload 6, 2) := by decide +kernel
theorem dX8_work_373 : decode cX8_work 373 = .ok (.if_icmp .ge 7, 3) := by decide +kernel
theorem dX8_work_376 : decode cX8_work 376 = .ok (.iconst 1, 1) := by decide +kernel
theorem dX8_work_377 : decode cX8_work 377 = .ok (.goto 4, 3) := by decide +kernel
theorem dX8_work_380 : decode cX8_work 380 = .ok (.iconst 0, 1) := by decide +kernel
theorem dX8_work_381 : decode cX8_work 381 = .ok (.iload_n 3, 1) := by decide +kernel
theorem dX8_work_382 : decode cX8_work 382 = .ok (.iconst 2, 1) := by decide +kernel
theorem dX8_work_383 : decode cX8_work 383 = .ok (.if_icmp .ge 7, 3) := by decide +kernel
theorem dX8_work_386 : decode cX8_work 386 = .ok (.iconst 1, 1) := by decide +kernel
theorem dX8_work_387 : decode cX8_work 387 = .ok (.goto 4, 3) := by decide +kernel
theorem dX8_work_390 : decode cX8_work 390 = .ok (.iconst 0, 1) := by decide +kernel
theorem dX8_work_391 : decode cX8_work 391 = .ok (.if_icmp .ne 7, 3) := by decide +kernel
theorem dX8_work_394 : decode cX8_work 394 = .ok (.iconst 1, 1) := by decide +kernel
theorem dX8_work_395 : decode cX8_work 395 = .ok (.goto 4, 3) := by decide +kernel
theorem dX8_work_398 : decode cX8_work 398 = .ok (.iconst 0, 1) := by decide +kernel
theorem dX8_work_399 : decode cX8_work 399 = .ok (.iload_n 3, 1) := by decide +kernel
theorem dX8_work_400 : decode cX8_work 400 = .ok (.iconst 1, 1) := by decide +kernel
theorem dX8_work_401 : decode cX8_work 401 = .ok (.if_icmp .ne 10, 3) := by decide +kernel
theorem dX8_work_404 : decode cX8_work 404 = .ok (.iload 5, 2) := by decide +kernel
theorem dX8_work_406 : decode cX8_work 406 = .ok (.iconst 1, 1) := by decide +kernel
theorem dX8_work_407 : decode cX8_work 407 = .ok (.iadd, 1) := by decide +kernel
theorem dX8_work_408 : decode cX8_work 408 = .ok (.goto 5, 3) := by decide +kernel
theorem dX8_work_411 : decode cX8_work 411 = .ok (.iload 5, 2) := by decide +kernel
theorem dX8_work_413 : decode cX8_work 413 = .ok (.invokevirtual 205, 3) := by decide +kernel
theorem dX8_work_416 : decode cX8_work 416 = .ok (.goto 164, 3) := by decide +kernel
theorem dX8_work_419 : decode cX8_work 419 = .ok (.aload_n 0, 1) := by decide +kernel
theorem dX8_work_420 : decode cX8_work 420 = .ok (.iload_n 1, 1) := by decide +kernel
theorem dX8_work_421 : decode cX8_work 421 = .ok (.iload 5, 2) := by decide +kernel
theorem dX8_work_423 : decode cX8_work 423 = .ok (.invokevirtual 209, 3) := by decide +kernel
theorem dX8_work_426 : decode cX8_work 426 = .ok (.goto 154, 3) := by decide +kernel
theorem dX8_work_429 : decode cX8_work 429 = .ok (.aload_n 0, 1) := by decide +kernel
theorem dX8_work_430 : decode cX8_work 430 = .ok (.getfield 56, 3) := by decide +kernel
theorem dX8_work_433 : decode cX8_work 433 = .ok (.iload_n 1, 1) := by decide +kernel
theorem dX8_work_434 : decode cX8_work 434 = .ok (.iaload, 1) := by decide +kernel
theorem dX8_work_435 : decode cX8_work 435 = .ok (.iload 5, 2) := by decide +kernel
theorem dX8_work_437 : decode cX8_work 437 = .ok (.iadd, 1) := by decide +kernel
theorem dX8_work_438 : decode cX8_work 438 = .ok (.istore 9, 2) := by decide +kernel
theorem dX8_work_440 : decode cX8_work 440 = .ok (.iload 9, 2) := by decide +kernel
theorem dX8_work_442 : decode cX8_work 442 = .ok (.aload_n 0, 1) := by decide +kernel
theorem dX8_work_443 : decode cX8_work 443 = .ok (.iload_n 1, 1) := by decide +kernel
theorem dX8_work_444 : decode cX8_work 444 = .ok (.invokevirtual 171, 3) := by decide +kernel
theorem dX8_work_447 : decode cX8_work 447 = .ok (.if_icmp .ge 8, 3) := by decide +kernel
theorem dX8_work_450 : decode cX8_work 450 = .ok (.iload 9, 2) := by decide +kernel
theorem dX8_work_452 : decode cX8_work 452 = .ok (.goto 8, 3) := by decide +kernel
theorem dX8_work_455 : decode cX8_work 455 = .ok (.aload_n 0, 1) := by decide +kernel
theorem dX8_work_456 : decode cX8_work 456 = .ok (.iload_n 1, 1) := by decide +kernel
theorem dX8_work_457 : decode cX8_work 457 = .ok (.invokevirtual 171, 3) := by decide +kernel
theorem dX8_work_460 : decode cX8_work 460 = .ok (.istore 9, 2) := by decide +kernel
theorem dX8_work_462 : decode cX8_work 462 = .ok (.aload_n 0, 1) := by decide +kernel
theorem dX8_work_463 : decode cX8_work 463 = .ok (.bipush 10, 2) := by decide +kernel
theorem dX8_work_465 : decode cX8_work 465 = .ok (.iload_n 1, 1) := by decide +kernel
theorem dX8_work_466 : decode cX8_work 466 = .ok (.imul, 1) := by decide +kernel
theorem dX8_work_467 : decode cX8_work 467 = .ok (.iconst 1, 1) := by decide +kernel
theorem dX8_work_468 : decode cX8_work 468 = .ok (.iadd, 1) := by decide +kernel
theorem dX8_work_469 : decode cX8_work 469 = .ok (.aload_n 0, 1) := by decide +kernel
theorem dX8_work_470 : decode cX8_work 470 = .ok (.getfield 59, 3) := by decide +kernel
theorem dX8_work_473 : decode cX8_work 473 = .ok (.iload_n 1, 1) := by decide +kernel
theorem dX8_work_474 : decode cX8_work 474 = .ok (.iaload, 1) := by decide +kernel
theorem dX8_work_475 : decode cX8_work 475 = .ok (.iadd, 1) := by decide +kernel
theorem dX8_work_476 : decode cX8_work 476 = .ok (.invokevirtual 212, 3) := by decide +kernel
theorem dX8_work_479 : decode cX8_work 479 = .ok (.aload_n 0, 1) := by decide +kernel
theorem dX8_work_480 : decode cX8_work 480 = .ok (.getfield 62, 3) := by decide +kernel
theorem dX8_work_483 : decode cX8_work 483 = .ok (.bipush 10, 2) := by decide +kernel
theorem dX8_work_485 : decode cX8_work 485 = .ok (.iload_n 1, 1) := by decide +kernel
theorem dX8_work_486 : decode cX8_work 486 = .ok (.imul, 1) := by decide +kernel
theorem dX8_work_487 : decode cX8_work 487 = .ok (.aload_n 0, 1) := by decide +kernel
theorem dX8_work_488 : decode cX8_work 488 = .ok (.getfield 59, 3) := by decide +kernel
theorem dX8_work_491 : decode cX8_work 491 = .ok (.iload_n 1, 1) := by decide +kernel
theorem dX8_work_492 : decode cX8_work 492 = .ok (.iaload, 1) := by decide +kernel
theorem dX8_work_493 : decode cX8_work 493 = .ok (.iadd, 1) := by decide +kernel
theorem dX8_work_494 : decode cX8_work 494 = .ok (.iload 9, 2) := by decide +kernel
theorem dX8_work_496 : decode cX8_work 496 = .ok (.iastore, 1) := by decide +kernel
theorem dX8_work_497 : decode cX8_work 497 = .ok (.aload_n 0, 1) := by decide +kernel
theorem dX8_work_498 : decode cX8_work 498 = .ok (.getfield 59, 3) := by decide +kernel
theorem dX8_work_501 : decode cX8_work 501 = .ok (.iload_n 1, 1) := by decide +kernel
theorem dX8_work_502 : decode cX8_work 502 = .ok (.dup2, 1) := by decide +kernel
theorem dX8_work_503 : decode cX8_work 503 = .ok (.iaload, 1) := by decide +kernel
theorem dX8_work_504 : decode cX8_work 504 = .ok (.iconst 1, 1) := by decide +kernel
theorem dX8_work_505 : decode cX8_work 505 = .ok (.iadd, 1) := by decide +kernel
theorem dX8_work_506 : decode cX8_work 506 = .ok (.iastore, 1) := by decide +kernel
theorem dX8_work_507 : decode cX8_work 507 = .ok (.goto 73, 3) := by decide +kernel
theorem dX8_work_510 : decode cX8_work 510 = .ok (.aload_n 0, 1) := by decide +kernel
theorem dX8_work_511 : decode cX8_work 511 = .ok (.getfield 53, 3) := by decide +kernel
theorem dX8_work_514 : decode cX8_work 514 = .ok (.iload_n 1, 1) := by decide +kernel
theorem dX8_work_515 : decode cX8_work 515 = .ok (.aload_n 0, 1) := by decide +kernel
theorem dX8_work_516 : decode cX8_work 516 = .ok (.getfield 7, 3) := by decide +kernel
theorem dX8_work_519 : decode cX8_work 519 = .ok (.bipush 28, 2) := by decide +kernel
theorem dX8_work_521 : decode cX8_work 521 = .ok (.iaload, 1) := by decide +kernel
theorem dX8_work_522 : decode cX8_work 522 = .ok (.iastore, 1) := by decide +kernel
theorem dX8_work_523 : decode cX8_work 523 = .ok (.goto 57, 3) := by decide +kernel
theorem dX8_work_526 : decode cX8_work 526 = .ok (.aload_n 0, 1) := by decide +kernel
theorem dX8_work_527 : decode cX8_work 527 = .ok (.getfield 7, 3) := by decide +kernel
theorem dX8_work_530 : decode cX8_work 530 = .ok (.iload 7, 2) := by decide +kernel
theorem dX8_work_532 : decode cX8_work 532 = .ok (.iaload, 1) := by decide +kernel
theorem dX8_work_533 : decode cX8_work 533 = .ok (.ifCond .ne 14, 3) := by decide +kernel
theorem dX8_work_536 : decode cX8_work 536 = .ok (.aload_n 0, 1) := by decide +kernel
theorem dX8_work_537 : decode cX8_work 537 = .ok (.bipush 6, 2) := by decide +kernel
theorem dX8_work_539 : decode cX8_work 539 = .ok (.bipush 6, 2) := by decide +kernel
theorem dX8_work_541 : decode cX8_work 541 = .ok (.invokevirtual 187, 3) := by decide +kernel
theorem dX8_work_544 : decode cX8_work 544 = .ok (.goto 36, 3) := by decide +kernel
theorem dX8_work_547 : decode cX8_work 547 = .ok (.aload_n 0, 1) := by decide +kernel
theorem dX8_work_548 : decode cX8_work 548 = .ok (.getfield 53, 3) := by decide +kernel
theorem dX8_work_551 : decode cX8_work 551 = .ok (.iload_n 1, 1) := by decide +kernel
theorem dX8_work_552 : decode cX8_work 552 = .ok (.aload_n 0, 1) := by decide +kernel
theorem dX8_work_553 : decode cX8_work 553 = .ok (.getfield 7, 3) := by decide +kernel
theorem dX8_work_556 : decode cX8_work 556 = .ok (.iload 7, 2) := by decide +kernel
theorem dX8_work_558 : decode cX8_work 558 = .ok (.iaload, 1) := by decide +kernel
theorem dX8_work_559 : decode cX8_work 559 = .ok (.iconst (-1), 1) := by decide +kernel
theorem dX8_work_560 : decode cX8_work 560 = .ok (.if_icmp .ne 9, 3) := by decide +kernel
theorem dX8_work_563 : decode cX8_work 563 = .ok (.iload 8, 2) := by decide +kernel
theorem dX8_work_565 : decode cX8_work 565 = .ok (.ineg, 1) := by decide +kernel
theorem dX8_work_566 : decode cX8_work 566 = .ok (.goto 13, 3) := by decide +kernel
theorem dX8_work_569 : decode cX8_work 569 = .ok (.iload 8, 2) := by decide +kernel
theorem dX8_work_571 : decode cX8_work 571 = .ok (.aload_n 0, 1) := by decide +kernel
theorem dX8_work_572 : decode cX8_work 572 = .ok (.getfield 7, 3) := by decide +kernel
theorem dX8_work_575 : decode cX8_work 575 = .ok (.iload 7, 2) := by decide +kernel
theorem dX8_work_577 : decode cX8_work 577 = .ok (.iaload, 1) := by decide +kernel
theorem dX8_work_578 : decode cX8_work 578 = .ok (.idiv, 1) := by decide +kernel
theorem dX8_work_579 : decode cX8_work 579 = .ok (.iastore, 1) := by decide +kernel
theorem dX8_work_580 : decode cX8_work 580 = .ok (.return_, 1) := by decide +kernel
theorem dX8_ask_0 : decode cX8_ask 0 = .ok (.aload_n 0, 1) := by decide +kernel
theorem dX8_ask_1 : decode cX8_ask 1 = .ok (.getfield 68, 3) := by decide +kernel
theorem dX8_ask_4 : decode cX8_ask 4 = .ok (.iload_n 2, 1) := by decide +kernel
theorem dX8_ask_5 : decode cX8_ask 5 = .ok (.iaload, 1) := by decide +kernel
theorem dX8_ask_6 : decode cX8_ask 6 = .ok (.iconst 1, 1) := by decide +kernel
theorem dX8_ask_7 : decode cX8_ask 7 = .ok (.if_icmp .ne 18, 3) := by decide +kernel
theorem dX8_ask_10 : decode cX8_ask 10 = .ok (.aload_n 0, 1) := by decide +kernel
theorem dX8_ask_11 : decode cX8_ask 11 = .ok (.getfield 53, 3) := by decide +kernel
theorem dX8_ask_14 : decode cX8_ask 14 = .ok (.iload_n 1, 1) := by decide +kernel
theorem dX8_ask_15 : decode cX8_ask 15 = .ok (.aload_n 0, 1) := by decide +kernel
theorem dX8_ask_16 : decode cX8_ask 16 = .ok (.getfield 71, 3) := by decide +kernel
theorem dX8_ask_19 : decode cX8_ask 19 = .ok (.iload_n 2, 1) := by decide +kernel
theorem dX8_ask_20 : decode cX8_ask 20 = .ok (.iaload, 1) := by decide +kernel
theorem dX8_ask_21 : decode cX8_ask 21 = .ok (.iastore, 1) := by decide +kernel
theorem dX8_ask_22 : decode cX8_ask 22 = .ok (.goto 121, 3) := by decide +kernel
theorem dX8_ask_25 : decode cX8_ask 25 = .ok (.aload_n 0, 1) := by decide +kernel
theorem dX8_ask_26 : decode cX8_ask 26 = .ok (.getfield 68, 3) := by decide +kernel
theorem dX8_ask_29 : decode cX8_ask 29 = .ok (.iload_n 2, 1) := by decide +kernel
theorem dX8_ask_30 : decode cX8_ask 30 = .ok (.iaload, 1) := by decide +kernel
theorem dX8_ask_31 : decode cX8_ask 31 = .ok (.iconst 2, 1) := by decide +kernel
theorem dX8_ask_32 : decode cX8_ask 32 = .ok (.if_icmp .ne 17, 3) := by decide +kernel
theorem dX8_ask_35 : decode cX8_ask 35 = .ok (.aload_n 0, 1) := by decide +kernel
theorem dX8_ask_36 : decode cX8_ask 36 = .ok (.iconst 5, 1) := by decide +kernel
theorem dX8_ask_37 : decode cX8_ask 37 = .ok (.aload_n 0, 1) := by decide +kernel
theorem dX8_ask_38 : decode cX8_ask 38 = .ok (.getfield 71, 3) := by decide +kernel
theorem dX8_ask_41 : decode cX8_ask 41 = .ok (.iload_n 2, 1) := by decide +kernel
theorem dX8_ask_42 : decode cX8_ask 42 = .ok (.iaload, 1) := by decide +kernel
theorem dX8_ask_43 : decode cX8_ask 43 = .ok (.invokevirtual 187, 3) := by decide +kernel
theorem dX8_ask_46 : decode cX8_ask 46 = .ok (.goto 97, 3) := by decide +kernel
theorem dX8_ask_49 : decode cX8_ask 49 = .ok (.aload_n 0, 1) := by decide +kernel
theorem dX8_ask_50 : decode cX8_ask 50 = .ok (.getfield 28, 3) := by decide +kernel
theorem dX8_ask_53 : decode cX8_ask 53 = .ok (.iload_n 2, 1) := by decide +kernel
theorem dX8_ask_54 : decode cX8_ask 54 = .ok (.iaload, 1) := by decide +kernel
theorem dX8_ask_55 : decode cX8_ask 55 = .ok (.ifCond .ge 12, 3) := by decide +kernel
theorem dX8_ask_58 : decode cX8_ask 58 = .ok (.aload_n 0, 1) := by decide +kernel
theorem dX8_ask_59 : decode cX8_ask 59 = .ok (.iconst 5, 1) := by decide +kernel
theorem dX8_ask_60 : decode cX8_ask 60 = .ok (.iconst 3, 1) := by decide +kernel
theorem dX8_ask_61 : decode cX8_ask 61 = .ok (.invokevirtual 187, 3) := by decide +kernel
theorem dX8_ask_64 : decode cX8_ask 64 = .ok (.goto 79, 3) := by decide +kernel
theorem dX8_ask_67 : decode cX8_ask 67 = .ok (.aload_n 0, 1) := by decide +kernel
theorem dX8_ask_68 : decode cX8_ask 68 = .ok (.getfield 154, 3) := by decide +kernel
theorem dX8_ask_71 : decode cX8_ask 71 = .ok (.iconst 4, 1) := by decide +kernel
theorem dX8_ask_72 : decode cX8_ask 72 = .ok (.if_icmp .ne 12, 3) := by decide +kernel
theorem dX8_ask_75 : decode cX8_ask 75 = .ok (.aload_n 0, 1) := by decide +kernel
theorem dX8_ask_76 : decode cX8_ask 76 = .ok (.iconst 5, 1) := by decide +kernel
theorem dX8_ask_77 : decode cX8_ask 77 = .ok (.iconst 4, 1) := by decide +kernel
theorem dX8_ask_78 : decode cX8_ask 78 = .ok (.invokevirtual 187, 3) := by decide +kernel
theorem dX8_ask_81 : decode cX8_ask 81 = .ok (.goto 62, 3) := by decide +kernel
theorem dX8_ask_84 : decode cX8_ask 84 = .ok (.aload_n 0, 1) := by decide +kernel
theorem dX8_ask_85 : decode cX8_ask 85 = .ok (.getfield 181, 3) := by decide +kernel
theorem dX8_ask_88 : decode cX8_ask 88 = .ok (.ldc2_w 185, 3) := by decide +kernel
theorem dX8_ask_91 : decode cX8_ask 91 = .ok (.lcmp, 1) := by decide +kernel
theorem dX8_ask_92 : decode cX8_ask 92 = .ok (.ifCond .ne 14, 3) := by decide +kernel
theorem dX8_ask_95 : decode cX8_ask 95 = .ok (.aload_n 0, 1) := by decide +kernel
theorem dX8_ask_96 : decode cX8_ask 96 = .ok (.bipush 7, 2) := by decide +kernel
theorem dX8_ask_98 : decode cX8_ask 98 = .ok (.bipush 7, 2) := by decide +kernel
theorem dX8_ask_100 : decode cX8_ask 100 = .ok (.invokevirtual 187, 3) := by decide +kernel
theorem dX8_ask_103 : decode cX8_ask 103 = .ok (.goto 40, 3) := by decide +kernel
theorem dX8_ask_106 : decode cX8_ask 106 = .ok (.aload_n 0, 1) := by decide +kernel
theorem dX8_ask_107 : decode cX8_ask 107 = .ok (.dup, 1) := by decide +kernel
theorem dX8_ask_108 : decode cX8_ask 108 = .ok (.getfield 181, 3) := by decide +kernel
theorem dX8_ask_111 : decode cX8_ask 111 = .ok (.lconst 1, 1) := by decide +kernel
theorem dX8_ask_112 : decode cX8_ask 112 = .ok (.ladd, 1) := by decide +kernel
theorem dX8_ask_113 : decode cX8_ask 113 = .ok (.putfield 181, 3) := by decide +kernel
theorem dX8_ask_116 : decode cX8_ask 116 = .ok (.aload_n 0, 1) := by decide +kernel
theorem dX8_ask_117 : decode cX8_ask 117 = .ok (.bipush 10, 2) := by decide +kernel
theorem dX8_ask_119 : decode cX8_ask 119 = .ok (.aload_n 0, 1) := by decide +kernel
theorem dX8_ask_120 : decode cX8_ask 120 = .ok (.getfield 154, 3) := by decide +kernel
theorem dX8_ask_123 : decode cX8_ask 123 = .ok (.imul, 1) := by decide +kernel
theorem dX8_ask_124 : decode cX8_ask 124 = .ok (.invokevirtual 212, 3) := by decide +kernel
theorem dX8_ask_127 : decode cX8_ask 127 = .ok (.aload_n 0, 1) := by decide +kernel
theorem dX8_ask_128 : decode cX8_ask 128 = .ok (.aload_n 0, 1) := by decide +kernel
theorem dX8_ask_129 : decode cX8_ask 129 = .ok (.getfield 28, 3) := by decide +kernel
theorem dX8_ask_132 : decode cX8_ask 132 = .ok (.iload_n 2, 1) := by decide +kernel
theorem dX8_ask_133 : decode cX8_ask 133 = .ok (.iaload, 1) := by decide +kernel
theorem dX8_ask_134 : decode cX8_ask 134 = .ok (.aload_n 0, 1) := by decide +kernel
theorem dX8_ask_135 : decode cX8_ask 135 = .ok (.getfield 53, 3) := by decide +kernel
theorem dX8_ask_138 : decode cX8_ask 138 = .ok (.iload_n 1, 1) := by decide +kernel
theorem dX8_ask_139 : decode cX8_ask 139 = .ok (.iaload, 1) := by decide +kernel
theorem dX8_ask_140 : decode cX8_ask 140 = .ok (.invokevirtual 215, 3) := by decide +kernel
theorem dX8_ask_143 : decode cX8_ask 143 = .ok (.return_, 1) := by decide +kernel
theorem dX8_outside_0 : decode cX8_outside 0 = .ok (.aload_n 0, 1) := by decide +kernel
theorem dX8_outside_1 : decode cX8_outside 1 = .ok (.iconst 0, 1) := by decide +kernel
theorem dX8_outside_2 : decode cX8_outside 2 = .ok (.putfield 178, 3) := by decide +kernel
theorem dX8_outside_5 : decode cX8_outside 5 = .ok (.aload_n 0, 1) := by decide +kernel
theorem dX8_outside_6 : decode cX8_outside 6 = .ok (.iconst 0, 1) := by decide +kernel
theorem dX8_outside_7 : decode cX8_outside 7 = .ok (.putfield 161, 3) := by decide +kernel
theorem dX8_outside_10 : decode cX8_outside 10 = .ok (.aload_n 0, 1) := by decide +kernel
theorem dX8_outside_11 : decode cX8_outside 11 = .ok (.iconst 0, 1) := by decide +kernel
theorem dX8_outside_12 : decode cX8_outside 12 = .ok (.putfield 164, 3) := by decide +kernel
theorem dX8_outside_15 : decode cX8_outside 15 = .ok (.aload_n 0, 1) := by decide +kernel
theorem dX8_outside_16 : decode cX8_outside 16 = .ok (.iconst 0, 1) := by decide +kernel
theorem dX8_outside_17 : decode cX8_outside 17 = .ok (.putfield 175, 3) := by decide +kernel
theorem dX8_outside_20 : decode cX8_outside 20 = .ok (.aload_n 0, 1) := by decide +kernel
theorem dX8_outside_21 : decode cX8_outside 21 = .ok (.iconst 0, 1) := by decide +kernel
theorem dX8_outside_22 : decode cX8_outside 22 = .ok (.putfield 167, 3) := by decide +kernel
theorem dX8_outside_25 : decode cX8_outside 25 = .ok (.aload_n 0, 1) := by decide +kernel
theorem dX8_outside_26 : decode cX8_outside 26 = .ok (.iconst 0, 1) := by decide +kernel
theorem dX8_outside_27 : decode cX8_outside 27 = .ok (.putfield 154, 3) := by decide +kernel
theorem dX8_outside_30 : decode cX8_outside 30 = .ok (.aload_n 0, 1) := by decide +kernel
theorem dX8_outside_31 : decode cX8_outside 31 = .ok (.iconst 0, 1) := by decide +kernel
theorem dX8_outside_32 : decode cX8_outside 32 = .ok (.invokevirtual 212, 3) := by decide +kernel
theorem dX8_outside_35 : decode cX8_outside 35 = .ok (.aload_n 0, 1) := by decide +kernel
theorem dX8_outside_36 : decode cX8_outside 36 = .ok (.getfield 181, 3) := by decide +kernel
theorem dX8_outside_39 : decode cX8_outside 39 = .ok (.ldc2_w 185, 3) := by decide +kernel
theorem dX8_outside_42 : decode cX8_outside 42 = .ok (.lcmp, 1) := by decide +kernel
theorem dX8_outside_43 : decode cX8_outside 43 = .ok (.ifCond .ne 8, 3) := by decide +kernel
theorem dX8_outside_46 : decode cX8_outside 46 = .ok (.bipush 7, 2) := by decide +kernel
theorem dX8_outside_48 : decode cX8_outside 48 = .ok (.goto 4, 3) := by decide +kernel
theorem dX8_outside_51 : decode cX8_outside 51 = .ok (.iconst 0, 1) := by decide +kernel
theorem dX8_outside_52 : decode cX8_outside 52 = .ok (.istore 5, 2) := by decide +kernel
theorem dX8_outside_54 : decode cX8_outside 54 = .ok (.iload 5, 2) := by decide +kernel
theorem dX8_outside_56 : decode cX8_outside 56 = .ok (.ifCond .ne 28, 3) := by decide +kernel
theorem dX8_outside_59 : decode cX8_outside 59 = .ok (.aload_n 0, 1) := by decide +kernel
theorem dX8_outside_60 : decode cX8_outside 60 = .ok (.dup, 1) := by decide +kernel
theorem dX8_outside_61 : decode cX8_outside 61 = .ok (.getfield 181, 3) := by decide +kernel
theorem dX8_outside_64 : decode cX8_outside 64 = .ok (.lconst 1, 1) := by decide +kernel
theorem dX8_outside_65 : decode cX8_outside 65 = .ok (.ladd, 1) := by decide +kernel
theorem dX8_outside_66 : decode cX8_outside 66 = .ok (.putfield 181, 3) := by decide +kernel
theorem dX8_outside_69 : decode cX8_outside 69 = .ok (.aload_n 0, 1) := by decide +kernel
theorem dX8_outside_70 : decode cX8_outside 70 = .ok (.iload_n 1, 1) := by decide +kernel
theorem dX8_outside_71 : decode cX8_outside 71 = .ok (.bipush 8, 2) := by decide +kernel
theorem dX8_outside_73 : decode cX8_outside 73 = .ok (.iload_n 2, 1) := by decide +kernel
theorem dX8_outside_74 : decode cX8_outside 74 = .ok (.iconst 3, 1) := by decide +kernel
theorem dX8_outside_75 : decode cX8_outside 75 = .ok (.idiv, 1) := by decide +kernel
theorem dX8_outside_76 : decode cX8_outside 76 = .ok (.iadd, 1) := by decide +kernel
theorem dX8_outside_77 : decode cX8_outside 77 = .ok (.iload 4, 2) := by decide +kernel
theorem dX8_outside_79 : decode cX8_outside 79 = .ok (.invokevirtual 201, 3) := by decide +kernel
theorem dX8_outside_82 : decode cX8_outside 82 = .ok (.istore 5, 2) := by decide +kernel
theorem dX8_outside_84 : decode cX8_outside 84 = .ok (.iload 5, 2) := by decide +kernel
theorem dX8_outside_86 : decode cX8_outside 86 = .ok (.ifCond .le 14, 3) := by decide +kernel
theorem dX8_outside_89 : decode cX8_outside 89 = .ok (.aload_n 0, 1) := by decide +kernel
theorem dX8_outside_90 : decode cX8_outside 90 = .ok (.iload 5, 2) := by decide +kernel
theorem dX8_outside_92 : decode cX8_outside 92 = .ok (.iload 5, 2) := by decide +kernel
theorem dX8_outside_94 : decode cX8_outside 94 = .ok (.invokevirtual 187, 3) := by decide +kernel
theorem dX8_outside_97 : decode cX8_outside 97 = .ok (.goto 9, 3) := by decide +kernel
theorem dX8_outside_100 : decode cX8_outside 100 = .ok (.aload_n 0, 1) := by decide +kernel
theorem dX8_outside_101 : decode cX8_outside 101 = .ok (.iload_n 2, 1) := by decide +kernel
theorem dX8_outside_102 : decode cX8_outside 102 = .ok (.iload_n 3, 1) := by decide +kernel
theorem dX8_outside_103 : decode cX8_outside 103 = .ok (.invokevirtual 215, 3) := by decide +kernel
theorem dX8_outside_106 : decode cX8_outside 106 = .ok (.aload_n 0, 1) := by decide +kernel
theorem dX8_outside_107 : decode cX8_outside 107 = .ok (.getfield 167, 3) := by decide +kernel
theorem dX8_outside_110 : decode cX8_outside 110 = .ok (.ifCond .ne 10, 3) := by decide +kernel
theorem dX8_outside_113 : decode cX8_outside 113 = .ok (.aload_n 0, 1) := by decide +kernel
theorem dX8_outside_114 : decode cX8_outside 114 = .ok (.invokevirtual 218, 3) := by decide +kernel
theorem dX8_outside_117 : decode cX8_outside 117 = .ok (.goto (-11), 3) := by decide +kernel
theorem dX8_outside_120 : decode cX8_outside 120 = .ok (.aload_n 0, 1) := by decide +kernel
theorem dX8_outside_121 : decode cX8_outside 121 = .ok (.aload_n 0, 1) := by decide +kernel
theorem dX8_outside_122 : decode cX8_outside 122 = .ok (.getfield 161, 3) := by decide +kernel
theorem dX8_outside_125 : decode cX8_outside 125 = .ok (.ifCond .le 7, 3) := by decide +kernel
theorem dX8_outside_128 : decode cX8_outside 128 = .ok (.iconst 0, 1) := by decide +kernel
theorem dX8_outside_129 : decode cX8_outside 129 = .ok (.goto 7, 3) := by decide +kernel
theorem dX8_outside_132 : decode cX8_outside 132 = .ok (.aload_n 0, 1) := by decide +kernel
theorem dX8_outside_133 : decode cX8_outside 133 = .ok (.getfield 175, 3) := by decide +kernel
theorem dX8_outside_136 : decode cX8_outside 136 = .ok (.putfield 221, 3) := by decide +kernel
theorem dX8_outside_139 : decode cX8_outside 139 = .ok (.aload_n 0, 1) := by decide +kernel
theorem dX8_outside_140 : decode cX8_outside 140 = .ok (.aload_n 0, 1) := by decide +kernel
theorem dX8_outside_141 : decode cX8_outside 141 = .ok (.getfield 161, 3) := by decide +kernel
theorem dX8_outside_144 : decode cX8_outside 144 = .ok (.putfield 224, 3) := by decide +kernel
theorem dX8_outside_147 : decode cX8_outside 147 = .ok (.aload_n 0, 1) := by decide +kernel
theorem dX8_outside_148 : decode cX8_outside 148 = .ok (.aload_n 0, 1) := by decide +kernel
theorem dX8_outside_149 : decode cX8_outside 149 = .ok (.getfield 164, 3) := by decide +kernel
theorem dX8_outside_152 : decode cX8_outside 152 = .ok (.putfield 227, 3) := by decide +kernel
theorem dX8_outside_155 : decode cX8_outside 155 = .ok (.aload_n 0, 1) := by decide +kernel
theorem dX8_outside_156 : decode cX8_outside 156 = .ok (.aload_n 0, 1) := by decide +kernel
theorem dX8_outside_157 : decode cX8_outside 157 = .ok (.getfield 178, 3) := by decide +kernel
theorem dX8_outside_160 : decode cX8_outside 160 = .ok (.putfield 230, 3) := by decide +kernel
theorem dX8_outside_163 : decode cX8_outside 163 = .ok (.return_, 1) := by decide +kernel
theorem dX8_call_0 : decode cX8_call 0 = .ok (.iload_n 1, 1) := by decide +kernel
theorem dX8_call_1 : decode cX8_call 1 = .ok (.invokestatic 133, 3) := by decide +kernel
theorem dX8_call_4 : decode cX8_call 4 = .ok (.ifCond .eq 17, 3) := by decide +kernel
theorem dX8_call_7 : decode cX8_call 7 = .ok (.aload_n 0, 1) := by decide +kernel
theorem dX8_call_8 : decode cX8_call 8 = .ok (.iload_n 2, 1) := by decide +kernel
theorem dX8_call_9 : decode cX8_call 9 = .ok (.iload_n 3, 1) := by decide +kernel
theorem dX8_call_10 : decode cX8_call 10 = .ok (.invokevirtual 145, 3) := by decide +kernel
theorem dX8_call_13 : decode cX8_call 13 = .ok (.ifCond .eq 8, 3) := by decide +kernel
theorem dX8_call_16 : decode cX8_call 16 = .ok (.iload 5, 2) := by decide +kernel
theorem dX8_call_18 : decode cX8_call 18 = .ok (.ifCond .ge 5, 3) := by decide +kernel
theorem dX8_call_21 : decode cX8_call 21 = .ok (.iconst (-1), 1) := by decide +kernel
theorem dX8_call_22 : decode cX8_call 22 = .ok (.ireturn, 1) := by decide +kernel
theorem dX8_call_23 : decode cX8_call 23 = .ok (.aload_n 0, 1) := by decide +kernel
theorem dX8_call_24 : decode cX8_call 24 = .ok (.iload_n 1, 1) := by decide +kernel
theorem dX8_call_25 : decode cX8_call 25 = .ok (.iconst 3, 1) := by decide +kernel
theorem dX8_call_26 : decode cX8_call 26 = .ok (.iload_n 2, 1) := by decide +kernel
theorem dX8_call_27 : decode cX8_call 27 = .ok (.imul, 1) := by decide +kernel
theorem dX8_call_28 : decode cX8_call 28 = .ok (.iload_n 3, 1) := by decide +kernel
theorem dX8_call_29 : decode cX8_call 29 = .ok (.iadd, 1) := by decide +kernel
theorem dX8_call_30 : decode cX8_call 30 = .ok (.iload 4, 2) := by decide +kernel
theorem dX8_call_32 : decode cX8_call 32 = .ok (.iload 5, 2) := by decide +kernel
theorem dX8_call_34 : decode cX8_call 34 = .ok (.invokevirtual 233, 3) := by decide +kernel
theorem dX8_call_37 : decode cX8_call 37 = .ok (.aload_n 0, 1) := by decide +kernel
theorem dX8_call_38 : decode cX8_call 38 = .ok (.getfield 224, 3) := by decide +kernel
theorem dX8_call_41 : decode cX8_call 41 = .ok (.ifCond .le 13, 3) := by decide +kernel
theorem dX8_call_44 : decode cX8_call 44 = .ok (.bipush (-10), 2) := by decide +kernel
theorem dX8_call_46 : decode cX8_call 46 = .ok (.aload_n 0, 1) := by decide +kernel
theorem dX8_call_47 : decode cX8_call 47 = .ok (.getfield 224, 3) := by decide +kernel
theorem dX8_call_50 : decode cX8_call 50 = .ok (.isub, 1) := by decide +kernel
theorem dX8_call_51 : decode cX8_call 51 = .ok (.goto 4, 3) := by decide +kernel
theorem dX8_call_54 : decode cX8_call 54 = .ok (.iconst 1, 1) := by decide +kernel
theorem dX8_call_55 : decode cX8_call 55 = .ok (.ireturn, 1) := by decide +kernel
theorem dX8_told_0 : decode cX8_told 0 = .ok (.iload_n 1, 1) := by decide +kernel
theorem dX8_told_1 : decode cX8_told 1 = .ok (.ifCond .ne 10, 3) := by decide +kernel
theorem dX8_told_4 : decode cX8_told 4 = .ok (.aload_n 0, 1) := by decide +kernel
theorem dX8_told_5 : decode cX8_told 5 = .ok (.getfield 221, 3) := by decide +kernel
theorem dX8_told_8 : decode cX8_told 8 = .ok (.goto 40, 3) := by decide +kernel
theorem dX8_told_11 : decode cX8_told 11 = .ok (.iload_n 1, 1) := by decide +kernel
theorem dX8_told_12 : decode cX8_told 12 = .ok (.iconst 1, 1) := by decide +kernel
theorem dX8_told_13 : decode cX8_told 13 = .ok (.if_icmp .ne 10, 3) := by decide +kernel
theorem dX8_told_16 : decode cX8_told 16 = .ok (.aload_n 0, 1) := by decide +kernel
theorem dX8_told_17 : decode cX8_told 17 = .ok (.getfield 224, 3) := by decide +kernel
theorem dX8_told_20 : decode cX8_told 20 = .ok (.goto 28, 3) := by decide +kernel
theorem dX8_told_23 : decode cX8_told 23 = .ok (.iload_n 1, 1) := by decide +kernel
theorem dX8_told_24 : decode cX8_told 24 = .ok (.iconst 2, 1) := by decide +kernel
theorem dX8_told_25 : decode cX8_told 25 = .ok (.if_icmp .ne 10, 3) := by decide +kernel
theorem dX8_told_28 : decode cX8_told 28 = .ok (.aload_n 0, 1) := by decide +kernel
theorem dX8_told_29 : decode cX8_told 29 = .ok (.getfield 227, 3) := by decide +kernel
theorem dX8_told_32 : decode cX8_told 32 = .ok (.goto 16, 3) := by decide +kernel
theorem dX8_told_35 : decode cX8_told 35 = .ok (.iload_n 1, 1) := by decide +kernel
theorem dX8_told_36 : decode cX8_told 36 = .ok (.iconst 3, 1) := by decide +kernel
theorem dX8_told_37 : decode cX8_told 37 = .ok (.if_icmp .ne 10, 3) := by decide +kernel
theorem dX8_told_40 : decode cX8_told 40 = .ok (.aload_n 0, 1) := by decide +kernel
theorem dX8_told_41 : decode cX8_told 41 = .ok (.getfield 230, 3) := by decide +kernel
theorem dX8_told_44 : decode cX8_told 44 = .ok (.goto 4, 3) := by decide +kernel
theorem dX8_told_47 : decode cX8_told 47 = .ok (.iconst 0, 1) := by decide +kernel
theorem dX8_told_48 : decode cX8_told 48 = .ok (.ireturn, 1) := by decide +kernel
theorem dX8_line_0 : decode cX8_line 0 = .ok (.iconst (-1), 1) := by decide +kernel
theorem dX8_line_1 : decode cX8_line 1 = .ok (.istore 7, 2) := by decide +kernel
theorem dX8_line_3 : decode cX8_line 3 = .ok (.iconst 0, 1) := by decide +kernel
theorem dX8_line_4 : decode cX8_line 4 = .ok (.istore 8, 2) := by decide +kernel
theorem dX8_line_6 : decode cX8_line 6 = .ok (.iload 8, 2) := by decide +kernel
theorem dX8_line_8 : decode cX8_line 8 = .ok (.bipush 14, 2) := by decide +kernel
theorem dX8_line_10 : decode cX8_line 10 = .ok (.if_icmp .ge 30, 3) := by decide +kernel
theorem dX8_line_13 : decode cX8_line 13 = .ok (.aload_n 0, 1) := by decide +kernel
theorem dX8_line_14 : decode cX8_line 14 = .ok (.getfield 31, 3) := by decide +kernel
theorem dX8_line_17 : decode cX8_line 17 = .ok (.iload 8, 2) := by decide +kernel
theorem dX8_line_19 : decode cX8_line 19 = .ok (.laload, 1) := by decide +kernel
theorem dX8_line_20 : decode cX8_line 20 = .ok (.lload_n 2, 1) := by decide +kernel
theorem dX8_line_21 : decode cX8_line 21 = .ok (.lcmp, 1) := by decide +kernel
theorem dX8_line_22 : decode cX8_line 22 = .ok (.ifCond .ne 8, 3) := by decide +kernel
theorem dX8_line_25 : decode cX8_line 25 = .ok (.iload 8, 2) := by decide +kernel
theorem dX8_line_27 : decode cX8_line 27 = .ok (.goto 5, 3) := by decide +kernel
theorem dX8_line_30 : decode cX8_line 30 = .ok (.iload 7, 2) := by decide +kernel
theorem dX8_line_32 : decode cX8_line 32 = .ok (.istore 7, 2) := by decide +kernel
theorem dX8_line_34 : decode cX8_line 34 = .ok (.iinc 8 1, 3) := by decide +kernel
theorem dX8_line_37 : decode cX8_line 37 = .ok (.goto (-31), 3) := by decide +kernel
theorem dX8_line_40 : decode cX8_line 40 = .ok (.iload_n 1, 1) := by decide +kernel
theorem dX8_line_41 : decode cX8_line 41 = .ok (.i2l, 1) := by decide +kernel
theorem dX8_line_42 : decode cX8_line 42 = .ok (.lconst 0, 1) := by decide +kernel
theorem dX8_line_43 : decode cX8_line 43 = .ok (.ldc2_w 237, 3) := by decide +kernel
theorem dX8_line_46 : decode cX8_line 46 = .ok (.invokestatic 123, 3) := by decide +kernel
theorem dX8_line_49 : decode cX8_line 49 = .ok (.ifCond .eq 8, 3) := by decide +kernel
theorem dX8_line_52 : decode cX8_line 52 = .ok (.iload 7, 2) := by decide +kernel
theorem dX8_line_54 : decode cX8_line 54 = .ok (.ifCond .ge 5, 3) := by decide +kernel
theorem dX8_line_57 : decode cX8_line 57 = .ok (.iconst (-1), 1) := by decide +kernel
theorem dX8_line_58 : decode cX8_line 58 = .ok (.ireturn, 1) := by decide +kernel
theorem dX8_line_59 : decode cX8_line 59 = .ok (.aload_n 0, 1) := by decide +kernel
theorem dX8_line_60 : decode cX8_line 60 = .ok (.getfield 35, 3) := by decide +kernel
theorem dX8_line_63 : decode cX8_line 63 = .ok (.iload_n 1, 1) := by decide +kernel
theorem dX8_line_64 : decode cX8_line 64 = .ok (.iaload, 1) := by decide +kernel
theorem dX8_line_65 : decode cX8_line 65 = .ok (.bipush 16, 2) := by decide +kernel
theorem dX8_line_67 : decode cX8_line 67 = .ok (.if_icmp .ne 6, 3) := by decide +kernel
theorem dX8_line_70 : decode cX8_line 70 = .ok (.bipush (-2), 2) := by decide +kernel
theorem dX8_line_72 : decode cX8_line 72 = .ok (.ireturn, 1) := by decide +kernel
theorem dX8_line_73 : decode cX8_line 73 = .ok (.bipush 16, 2) := by decide +kernel
theorem dX8_line_75 : decode cX8_line 75 = .ok (.iload_n 1, 1) := by decide +kernel
theorem dX8_line_76 : decode cX8_line 76 = .ok (.imul, 1) := by decide +kernel
theorem dX8_line_77 : decode cX8_line 77 = .ok (.aload_n 0, 1) := by decide +kernel
theorem dX8_line_78 : decode cX8_line 78 = .ok (.getfield 35, 3) := by decide +kernel
theorem dX8_line_81 : decode cX8_line 81 = .ok (.iload_n 1, 1) := by decide +kernel
theorem dX8_line_82 : decode cX8_line 82 = .ok (.iaload, 1) := by decide +kernel
theorem dX8_line_83 : decode cX8_line 83 = .ok (.iadd, 1) := by decide +kernel
theorem dX8_line_84 : decode cX8_line 84 = .ok (.istore 8, 2) := by decide +kernel
theorem dX8_line_86 : decode cX8_line 86 = .ok (.aload_n 0, 1) := by decide +kernel
theorem dX8_line_87 : decode cX8_line 87 = .ok (.getfield 38, 3) := by decide +kernel
theorem dX8_line_90 : decode cX8_line 90 = .ok (.iload 8, 2) := by decide +kernel
theorem dX8_line_92 : decode cX8_line 92 = .ok (.iload 7, 2) := by decide +kernel
theorem dX8_line_94 : decode cX8_line 94 = .ok (.iastore, 1) := by decide +kernel
theorem dX8_line_95 : decode cX8_line 95 = .ok (.aload_n 0, 1) := by decide +kernel
theorem dX8_line_96 : decode cX8_line 96 = .ok (.getfield 41, 3) := by decide +kernel
theorem dX8_line_99 : decode cX8_line 99 = .ok (.iload 8, 2) := by decide +kernel
theorem dX8_line_101 : decode cX8_line 101 = .ok (.iload 4, 2) := by decide +kernel
theorem dX8_line_103 : decode cX8_line 103 = .ok (.iastore, 1) := by decide +kernel
theorem dX8_line_104 : decode cX8_line 104 = .ok (.aload_n 0, 1) := by decide +kernel
theorem dX8_line_105 : decode cX8_line 105 = .ok (.getfield 44, 3) := by decide +kernel
theorem dX8_line_108 : decode cX8_line 108 = .ok (.iload 8, 2) := by decide +kernel
theorem dX8_line_110 : decode cX8_line 110 = .ok (.iload 5, 2) := by decide +kernel
theorem dX8_line_112 : decode cX8_line 112 = .ok (.iastore, 1) := by decide +kernel
theorem dX8_line_113 : decode cX8_line 113 = .ok (.aload_n 0, 1) := by decide +kernel
theorem dX8_line_114 : decode cX8_line 114 = .ok (.getfield 47, 3) := by decide +kernel
theorem dX8_line_117 : decode cX8_line 117 = .ok (.iload 8, 2) := by decide +kernel
theorem dX8_line_119 : decode cX8_line 119 = .ok (.iload 6, 2) := by decide +kernel
theorem dX8_line_121 : decode cX8_line 121 = .ok (.iastore, 1) := by decide +kernel
theorem dX8_line_122 : decode cX8_line 122 = .ok (.aload_n 0, 1) := by decide +kernel
theorem dX8_line_123 : decode cX8_line 123 = .ok (.getfield 35, 3) := by decide +kernel
theorem dX8_line_126 : decode cX8_line 126 = .ok (.iload_n 1, 1) := by decide +kernel
theorem dX8_line_127 : decode cX8_line 127 = .ok (.dup2, 1) := by decide +kernel
theorem dX8_line_128 : decode cX8_line 128 = .ok (.iaload, 1) := by decide +kernel
theorem dX8_line_129 : decode cX8_line 129 = .ok (.iconst 1, 1) := by decide +kernel
theorem dX8_line_130 : decode cX8_line 130 = .ok (.iadd, 1) := by decide +kernel
theorem dX8_line_131 : decode cX8_line 131 = .ok (.iastore, 1) := by decide +kernel
theorem dX8_line_132 : decode cX8_line 132 = .ok (.aload_n 0, 1) := by decide +kernel
theorem dX8_line_133 : decode cX8_line 133 = .ok (.getfield 35, 3) := by decide +kernel
theorem dX8_line_136 : decode cX8_line 136 = .ok (.iload_n 1, 1) := by decide +kernel
theorem dX8_line_137 : decode cX8_line 137 = .ok (.iaload, 1) := by decide +kernel
theorem dX8_line_138 : decode cX8_line 138 = .ok (.ireturn, 1) := by decide +kernel
theorem dX8_clear_0 : decode cX8_clear 0 = .ok (.iload_n 1, 1) := by decide +kernel
theorem dX8_clear_1 : decode cX8_clear 1 = .ok (.i2l, 1) := by decide +kernel
theorem dX8_clear_2 : decode cX8_clear 2 = .ok (.lconst 0, 1) := by decide +kernel
theorem dX8_clear_3 : decode cX8_clear 3 = .ok (.ldc2_w 237, 3) := by decide +kernel
theorem dX8_clear_6 : decode cX8_clear 6 = .ok (.invokestatic 123, 3) := by decide +kernel
theorem dX8_clear_9 : decode cX8_clear 9 = .ok (.ifCond .ne 5, 3) := by decide +kernel
theorem dX8_clear_12 : decode cX8_clear 12 = .ok (.iconst (-1), 1) := by decide +kernel
theorem dX8_clear_13 : decode cX8_clear 13 = .ok (.ireturn, 1) := by decide +kernel
theorem dX8_clear_14 : decode cX8_clear 14 = .ok (.aload_n 0, 1) := by decide +kernel
theorem dX8_clear_15 : decode cX8_clear 15 = .ok (.getfield 35, 3) := by decide +kernel
theorem dX8_clear_18 : decode cX8_clear 18 = .ok (.iload_n 1, 1) := by decide +kernel
theorem dX8_clear_19 : decode cX8_clear 19 = .ok (.iaload, 1) := by decide +kernel
theorem dX8_clear_20 : decode cX8_clear 20 = .ok (.istore_n 2, 1) := by decide +kernel
theorem dX8_clear_21 : decode cX8_clear 21 = .ok (.aload_n 0, 1) := by decide +kernel
theorem dX8_clear_22 : decode cX8_clear 22 = .ok (.getfield 35, 3) := by decide +kernel
theorem dX8_clear_25 : decode cX8_clear 25 = .ok (.iload_n 1, 1) := by decide +kernel
theorem dX8_clear_26 : decode cX8_clear 26 = .ok (.iconst 0, 1) := by decide +kernel
theorem dX8_clear_27 : decode cX8_clear 27 = .ok (.iastore, 1) := by decide +kernel
theorem dX8_clear_28 : decode cX8_clear 28 = .ok (.iload_n 2, 1) := by decide +kernel
theorem dX8_clear_29 : decode cX8_clear 29 = .ok (.ireturn, 1) := by decide +kernel
theorem dX8_calls_0 : decode cX8_calls 0 = .ok (.aload_n 0, 1) := by decide +kernel
theorem dX8_calls_1 : decode cX8_calls 1 = .ok (.iload_n 3, 1) := by decide +kernel
theorem dX8_calls_2 : decode cX8_calls 2 = .ok (.iload 4, 2) := by decide +kernel
theorem dX8_calls_4 : decode cX8_calls 4 = .ok (.invokevirtual 145, 3) := by decide +kernel
theorem dX8_calls_7 : decode cX8_calls 7 = .ok (.ifCond .ne 5, 3) := by decide +kernel
theorem dX8_calls_10 : decode cX8_calls 10 = .ok (.iconst 0, 1) := by decide +kernel
theorem dX8_calls_11 : decode cX8_calls 11 = .ok (.ireturn, 1) := by decide +kernel
theorem dX8_calls_12 : decode cX8_calls 12 = .ok (.aload_n 0, 1) := by decide +kernel
theorem dX8_calls_13 : decode cX8_calls 13 = .ok (.iconst 1, 1) := by decide +kernel
theorem dX8_calls_14 : decode cX8_calls 14 = .ok (.putfield 239, 3) := by decide +kernel
theorem dX8_calls_17 : decode cX8_calls 17 = .ok (.aload_n 0, 1) := by decide +kernel
theorem dX8_calls_18 : decode cX8_calls 18 = .ok (.aload_n 0, 1) := by decide +kernel
theorem dX8_calls_19 : decode cX8_calls 19 = .ok (.getfield 242, 3) := by decide +kernel
theorem dX8_calls_22 : decode cX8_calls 22 = .ok (.iconst 3, 1) := by decide +kernel
theorem dX8_calls_23 : decode cX8_calls 23 = .ok (.iload_n 3, 1) := by decide +kernel
theorem dX8_calls_24 : decode cX8_calls 24 = .ok (.imul, 1) := by decide +kernel
theorem dX8_calls_25 : decode cX8_calls 25 = .ok (.iload 4, 2) := by decide +kernel
theorem dX8_calls_27 : decode cX8_calls 27 = .ok (.iadd, 1) := by decide +kernel
theorem dX8_calls_28 : decode cX8_calls 28 = .ok (.iload 5, 2) := by decide +kernel
theorem dX8_calls_30 : decode cX8_calls 30 = .ok (.aload_n 0, 1) := by decide +kernel
theorem dX8_calls_31 : decode cX8_calls 31 = .ok (.getfield 245, 3) := by decide +kernel
theorem dX8_calls_34 : decode cX8_calls 34 = .ok (.invokevirtual 233, 3) := by decide +kernel
theorem dX8_calls_37 : decode cX8_calls 37 = .ok (.iload_n 2, 1) := by decide +kernel
theorem dX8_calls_38 : decode cX8_calls 38 = .ok (.iconst 1, 1) := by decide +kernel
theorem dX8_calls_39 : decode cX8_calls 39 = .ok (.iadd, 1) := by decide +kernel
theorem dX8_calls_40 : decode cX8_calls 40 = .ok (.aload_n 0, 1) := by decide +kernel
theorem dX8_calls_41 : decode cX8_calls 41 = .ok (.getfield 35, 3) := by decide +kernel
theorem dX8_calls_44 : decode cX8_calls 44 = .ok (.iload_n 1, 1) := by decide +kernel
theorem dX8_calls_45 : decode cX8_calls 45 = .ok (.iaload, 1) := by decide +kernel
theorem dX8_calls_46 : decode cX8_calls 46 = .ok (.if_icmp .ge 24, 3) := by decide +kernel
theorem dX8_calls_49 : decode cX8_calls 49 = .ok (.aload_n 0, 1) := by decide +kernel
theorem dX8_calls_50 : decode cX8_calls 50 = .ok (.getfield 38, 3) := by decide +kernel
theorem dX8_calls_53 : decode cX8_calls 53 = .ok (.bipush 16, 2) := by decide +kernel
theorem dX8_calls_55 : decode cX8_calls 55 = .ok (.iload_n 1, 1) := by decide +kernel
theorem dX8_calls_56 : decode cX8_calls 56 = .ok (.imul, 1) := by decide +kernel
theorem dX8_calls_57 : decode cX8_calls 57 = .ok (.iload_n 2, 1) := by decide +kernel
theorem dX8_calls_58 : decode cX8_calls 58 = .ok (.iadd, 1) := by decide +kernel
theorem dX8_calls_59 : decode cX8_calls 59 = .ok (.iconst 1, 1) := by decide +kernel
theorem dX8_calls_60 : decode cX8_calls 60 = .ok (.iadd, 1) := by decide +kernel
theorem dX8_calls_61 : decode cX8_calls 61 = .ok (.iaload, 1) := by decide +kernel
theorem dX8_calls_62 : decode cX8_calls 62 = .ok (.iconst 3, 1) := by decide +kernel
theorem dX8_calls_63 : decode cX8_calls 63 = .ok (.if_icmp .ne 7, 3) := by decide +kernel
theorem dX8_calls_66 : decode cX8_calls 66 = .ok (.iconst 1, 1) := by decide +kernel
theorem dX8_calls_67 : decode cX8_calls 67 = .ok (.goto 4, 3) := by decide +kernel
theorem dX8_calls_70 : decode cX8_calls 70 = .ok (.iconst 0, 1) := by decide +kernel
theorem dX8_calls_71 : decode cX8_calls 71 = .ok (.istore 6, 2) := by decide +kernel
theorem dX8_calls_73 : decode cX8_calls 73 = .ok (.aload_n 0, 1) := by decide +kernel
theorem dX8_calls_74 : decode cX8_calls 74 = .ok (.getfield 224, 3) := by decide +kernel
theorem dX8_calls_77 : decode cX8_calls 77 = .ok (.ifCond .eq 8, 3) := by decide +kernel
theorem dX8_calls_80 : decode cX8_calls 80 = .ok (.iload 6, 2) := by decide +kernel
theorem dX8_calls_82 : decode cX8_calls 82 = .ok (.ifCond .eq 7, 3) := by decide +kernel
theorem dX8_calls_85 : decode cX8_calls 85 = .ok (.iconst 1, 1) := by decide +kernel
theorem dX8_calls_86 : decode cX8_calls 86 = .ok (.goto 4, 3) := by decide +kernel
theorem dX8_calls_89 : decode cX8_calls 89 = .ok (.iconst 0, 1) := by decide +kernel
theorem dX8_calls_90 : decode cX8_calls 90 = .ok (.ireturn, 1) := by decide +kernel
theorem dX8_sum_0 : decode cX8_sum 0 = .ok (.lconst 0, 1) := by decide +kernel
theorem dX8_sum_1 : decode cX8_sum 1 = .ok (.lstore_n 1, 1) := by decide +kernel
theorem dX8_sum_2 : decode cX8_sum 2 = .ok (.iconst 0, 1) := by decide +kernel
theorem dX8_sum_3 : decode cX8_sum 3 = .ok (.istore_n 3, 1) := by decide +kernel
theorem dX8_sum_4 : decode cX8_sum 4 = .ok (.iload_n 3, 1) := by decide +kernel
theorem dX8_sum_5 : decode cX8_sum 5 = .ok (.bipush 12, 2) := by decide +kernel
theorem dX8_sum_7 : decode cX8_sum 7 = .ok (.if_icmp .ge 19, 3) := by decide +kernel
theorem dX8_sum_10 : decode cX8_sum 10 = .ok (.lload_n 1, 1) := by decide +kernel
theorem dX8_sum_11 : decode cX8_sum 11 = .ok (.aload_n 0, 1) := by decide +kernel
theorem dX8_sum_12 : decode cX8_sum 12 = .ok (.getfield 7, 3) := by decide +kernel
theorem dX8_sum_15 : decode cX8_sum 15 = .ok (.iload_n 3, 1) := by decide +kernel
theorem dX8_sum_16 : decode cX8_sum 16 = .ok (.iaload, 1) := by decide +kernel
theorem dX8_sum_17 : decode cX8_sum 17 = .ok (.i2l, 1) := by decide +kernel
theorem dX8_sum_18 : decode cX8_sum 18 = .ok (.ladd, 1) := by decide +kernel
theorem dX8_sum_19 : decode cX8_sum 19 = .ok (.lstore_n 1, 1) := by decide +kernel
theorem dX8_sum_20 : decode cX8_sum 20 = .ok (.iinc 3 1, 3) := by decide +kernel
theorem dX8_sum_23 : decode cX8_sum 23 = .ok (.goto (-19), 3) := by decide +kernel
theorem dX8_sum_26 : decode cX8_sum 26 = .ok (.lload_n 1, 1) := by decide +kernel
theorem dX8_sum_27 : decode cX8_sum 27 = .ok (.lreturn, 1) := by decide +kernel
theorem dX8_forked_0 : decode cX8_forked 0 = .ok (.iload_n 2, 1) := by decide +kernel
theorem dX8_forked_1 : decode cX8_forked 1 = .ok (.i2l, 1) := by decide +kernel
theorem dX8_forked_2 : decode cX8_forked 2 = .ok (.lconst 0, 1) := by decide +kernel
theorem dX8_forked_3 : decode cX8_forked 3 = .ok (.ldc2_w 131, 3) := by decide +kernel
theorem dX8_forked_6 : decode cX8_forked 6 = .ok (.invokestatic 123, 3) := by decide +kernel
theorem dX8_forked_9 : decode cX8_forked 9 = .ok (.ifCond .eq 16, 3) := by decide +kernel
theorem dX8_forked_12 : decode cX8_forked 12 = .ok (.iload_n 1, 1) := by decide +kernel
theorem dX8_forked_13 : decode cX8_forked 13 = .ok (.ifCond .eq 14, 3) := by decide +kernel
theorem dX8_forked_16 : decode cX8_forked 16 = .ok (.aload_n 0, 1) := by decide +kernel
theorem dX8_forked_17 : decode cX8_forked 17 = .ok (.getfield 80, 3) := by decide +kernel
theorem dX8_forked_20 : decode cX8_forked 20 = .ok (.iload_n 2, 1) := by decide +kernel
theorem dX8_forked_21 : decode cX8_forked 21 = .ok (.baload, 1) := by decide +kernel
theorem dX8_forked_22 : decode cX8_forked 22 = .ok (.ifCond .ne 5, 3) := by decide +kernel
theorem dX8_forked_25 : decode cX8_forked 25 = .ok (.iconst 0, 1) := by decide +kernel
theorem dX8_forked_26 : decode cX8_forked 26 = .ok (.ireturn, 1) := by decide +kernel
theorem dX8_forked_27 : decode cX8_forked 27 = .ok (.iconst 0, 1) := by decide +kernel
theorem dX8_forked_28 : decode cX8_forked 28 = .ok (.istore_n 3, 1) := by decide +kernel
theorem dX8_forked_29 : decode cX8_forked 29 = .ok (.iload_n 3, 1) := by decide +kernel
theorem dX8_forked_30 : decode cX8_forked 30 = .ok (.bipush 70, 2) := by decide +kernel
theorem dX8_forked_32 : decode cX8_forked 32 = .ok (.if_icmp .ge 50, 3) := by decide +kernel
theorem dX8_forked_35 : decode cX8_forked 35 = .ok (.iload_n 1, 1) := by decide +kernel
theorem dX8_forked_36 : decode cX8_forked 36 = .ok (.ifCond .eq 23, 3) := by decide +kernel
theorem dX8_forked_39 : decode cX8_forked 39 = .ok (.aload_n 0, 1) := by decide +kernel
theorem dX8_forked_40 : decode cX8_forked 40 = .ok (.getfield 7, 3) := by decide +kernel
theorem dX8_forked_43 : decode cX8_forked 43 = .ok (.iload_n 3, 1) := by decide +kernel
theorem dX8_forked_44 : decode cX8_forked 44 = .ok (.aload_n 0, 1) := by decide +kernel
theorem dX8_forked_45 : decode cX8_forked 45 = .ok (.getfield 77, 3) := by decide +kernel
theorem dX8_forked_48 : decode cX8_forked 48 = .ok (.bipush 70, 2) := by decide +kernel
theorem dX8_forked_50 : decode cX8_forked 50 = .ok (.iload_n 2, 1) := by decide +kernel
theorem dX8_forked_51 : decode cX8_forked 51 = .ok (.imul, 1) := by decide +kernel
theorem dX8_forked_52 : decode cX8_forked 52 = .ok (.iload_n 3, 1) := by decide +kernel
theorem dX8_forked_53 : decode cX8_forked 53 = .ok (.iadd, 1) := by decide +kernel
theorem dX8_forked_54 : decode cX8_forked 54 = .ok (.iaload, 1) := by decide +kernel
theorem dX8_forked_55 : decode cX8_forked 55 = .ok (.iastore, 1) := by decide +kernel
theorem dX8_forked_56 : decode cX8_forked 56 = .ok (.goto 20, 3) := by decide +kernel
theorem dX8_forked_59 : decode cX8_forked 59 = .ok (.aload_n 0, 1) := by decide +kernel
theorem dX8_forked_60 : decode cX8_forked 60 = .ok (.getfield 77, 3) := by decide +kernel
theorem dX8_forked_63 : decode cX8_forked 63 = .ok (.bipush 70, 2) := by decide +kernel
theorem dX8_forked_65 : decode cX8_forked 65 = .ok (.iload_n 2, 1) := by decide +kernel
theorem dX8_forked_66 : decode cX8_forked 66 = .ok (.imul, 1) := by decide +kernel
theorem dX8_forked_67 : decode cX8_forked 67 = .ok (.iload_n 3, 1) := by decide +kernel
theorem dX8_forked_68 : decode cX8_forked 68 = .ok (.iadd, 1) := by decide +kernel
theorem dX8_forked_69 : decode cX8_forked 69 = .ok (.aload_n 0, 1) := by decide +kernel
theorem dX8_forked_70 : decode cX8_forked 70 = .ok (.getfield 7, 3) := by decide +kernel
theorem dX8_forked_73 : decode cX8_forked 73 = .ok (.iload_n 3, 1) := by decide +kernel
theorem dX8_forked_74 : decode cX8_forked 74 = .ok (.iaload, 1) := by decide +kernel
theorem dX8_forked_75 : decode cX8_forked 75 = .ok (.iastore, 1) := by decide +kernel
theorem dX8_forked_76 : decode cX8_forked 76 = .ok (.iinc 3 1, 3) := by decide +kernel
theorem dX8_forked_79 : decode cX8_forked 79 = .ok (.goto (-50), 3) := by decide +kernel
theorem dX8_forked_82 : decode cX8_forked 82 = .ok (.aload_n 0, 1) := by decide +kernel
theorem dX8_forked_83 : decode cX8_forked 83 = .ok (.getfield 80, 3) := by decide +kernel
theorem dX8_forked_86 : decode cX8_forked 86 = .ok (.iload_n 2, 1) := by decide +kernel
theorem dX8_forked_87 : decode cX8_forked 87 = .ok (.iconst 1, 1) := by decide +kernel
theorem dX8_forked_88 : decode cX8_forked 88 = .ok (.bastore, 1) := by decide +kernel
theorem dX8_forked_89 : decode cX8_forked 89 = .ok (.iconst 1, 1) := by decide +kernel
theorem dX8_forked_90 : decode cX8_forked 90 = .ok (.ireturn, 1) := by decide +kernel
theorem dX8_doubles_0 : decode cX8_doubles 0 = .ok (.iload_n 2, 1) := by decide +kernel
theorem dX8_doubles_1 : decode cX8_doubles 1 = .ok (.i2l, 1) := by decide +kernel
theorem dX8_doubles_2 : decode cX8_doubles 2 = .ok (.lconst 0, 1) := by decide +kernel
theorem dX8_doubles_3 : decode cX8_doubles 3 = .ok (.ldc2_w 139, 3) := by decide +kernel
theorem dX8_doubles_6 : decode cX8_doubles 6 = .ok (.invokestatic 123, 3) := by decide +kernel
theorem dX8_doubles_9 : decode cX8_doubles 9 = .ok (.ifCond .eq 20, 3) := by decide +kernel
theorem dX8_doubles_12 : decode cX8_doubles 12 = .ok (.iload_n 1, 1) := by decide +kernel
theorem dX8_doubles_13 : decode cX8_doubles 13 = .ok (.iconst 2, 1) := by decide +kernel
theorem dX8_doubles_14 : decode cX8_doubles 14 = .ok (.if_icmp .ne 17, 3) := by decide +kernel
theorem dX8_doubles_17 : decode cX8_doubles 17 = .ok (.iload_n 3, 1) := by decide +kernel
theorem dX8_doubles_18 : decode cX8_doubles 18 = .ok (.i2l, 1) := by decide +kernel
theorem dX8_doubles_19 : decode cX8_doubles 19 = .ok (.lconst 0, 1) := by decide +kernel
theorem dX8_doubles_20 : decode cX8_doubles 20 = .ok (.ldc2_w 237, 3) := by decide +kernel
theorem dX8_doubles_23 : decode cX8_doubles 23 = .ok (.invokestatic 123, 3) := by decide +kernel
theorem dX8_doubles_26 : decode cX8_doubles 26 = .ok (.ifCond .ne 5, 3) := by decide +kernel
theorem dX8_doubles_29 : decode cX8_doubles 29 = .ok (.iconst 0, 1) := by decide +kernel
theorem dX8_doubles_30 : decode cX8_doubles 30 = .ok (.ireturn, 1) := by decide +kernel
theorem dX8_doubles_31 : decode cX8_doubles 31 = .ok (.aload_n 0, 1) := by decide +kernel
theorem dX8_doubles_32 : decode cX8_doubles 32 = .ok (.getfield 68, 3) := by decide +kernel
theorem dX8_doubles_35 : decode cX8_doubles 35 = .ok (.iload_n 2, 1) := by decide +kernel
theorem dX8_doubles_36 : decode cX8_doubles 36 = .ok (.iload_n 1, 1) := by decide +kernel
theorem dX8_doubles_37 : decode cX8_doubles 37 = .ok (.iastore, 1) := by decide +kernel
theorem dX8_doubles_38 : decode cX8_doubles 38 = .ok (.aload_n 0, 1) := by decide +kernel
theorem dX8_doubles_39 : decode cX8_doubles 39 = .ok (.getfield 71, 3) := by decide +kernel
theorem dX8_doubles_42 : decode cX8_doubles 42 = .ok (.iload_n 2, 1) := by decide +kernel
theorem dX8_doubles_43 : decode cX8_doubles 43 = .ok (.iload_n 1, 1) := by decide +kernel
theorem dX8_doubles_44 : decode cX8_doubles 44 = .ok (.iconst 1, 1) := by decide +kernel
theorem dX8_doubles_45 : decode cX8_doubles 45 = .ok (.if_icmp .ne 7, 3) := by decide +kernel
theorem dX8_doubles_48 : decode cX8_doubles 48 = .ok (.iload_n 3, 1) := by decide +kernel
theorem dX8_doubles_49 : decode cX8_doubles 49 = .ok (.goto 7, 3) := by decide +kernel
theorem dX8_doubles_52 : decode cX8_doubles 52 = .ok (.bipush 20, 2) := by decide +kernel
theorem dX8_doubles_54 : decode cX8_doubles 54 = .ok (.iload_n 3, 1) := by decide +kernel
theorem dX8_doubles_55 : decode cX8_doubles 55 = .ok (.iadd, 1) := by decide +kernel
theorem dX8_doubles_56 : decode cX8_doubles 56 = .ok (.iastore, 1) := by decide +kernel
theorem dX8_doubles_57 : decode cX8_doubles 57 = .ok (.iconst 1, 1) := by decide +kernel
theorem dX8_doubles_58 : decode cX8_doubles 58 = .ok (.ireturn, 1) := by decide +kernel
theorem dX8_isAsTold_0 : decode cX8_isAsTold 0 = .ok (.bipush 16, 2) := by decide +kernel
theorem dX8_isAsTold_2 : decode cX8_isAsTold 2 = .ok (.iload_n 1, 1) := by decide +kernel
theorem dX8_isAsTold_3 : decode cX8_isAsTold 3 = .ok (.imul, 1) := by decide +kernel
theorem dX8_isAsTold_4 : decode cX8_isAsTold 4 = .ok (.iload_n 2, 1) := by decide +kernel
theorem dX8_isAsTold_5 : decode cX8_isAsTold 5 = .ok (.iadd, 1) := by decide +kernel
theorem dX8_isAsTold_6 : decode cX8_isAsTold 6 = .ok (.istore_n 3, 1) := by decide +kernel
theorem dX8_isAsTold_7 : decode cX8_isAsTold 7 = .ok (.aload_n 0, 1) := by decide +kernel
theorem dX8_isAsTold_8 : decode cX8_isAsTold 8 = .ok (.getfield 41, 3) := by decide +kernel
theorem dX8_isAsTold_11 : decode cX8_isAsTold 11 = .ok (.iload_n 3, 1) := by decide +kernel
theorem dX8_isAsTold_12 : decode cX8_isAsTold 12 = .ok (.iaload, 1) := by decide +kernel
theorem dX8_isAsTold_13 : decode cX8_isAsTold 13 = .ok (.istore 4, 2) := by decide +kernel
theorem dX8_isAsTold_15 : decode cX8_isAsTold 15 = .ok (.aload_n 0, 1) := by decide +kernel
theorem dX8_isAsTold_16 : decode cX8_isAsTold 16 = .ok (.getfield 44, 3) := by decide +kernel
theorem dX8_isAsTold_19 : decode cX8_isAsTold 19 = .ok (.iload_n 3, 1) := by decide +kernel
theorem dX8_isAsTold_20 : decode cX8_isAsTold 20 = .ok (.iaload, 1) := by decide +kernel
theorem dX8_isAsTold_21 : decode cX8_isAsTold 21 = .ok (.istore 5, 2) := by decide +kernel
theorem dX8_isAsTold_23 : decode cX8_isAsTold 23 = .ok (.aload_n 0, 1) := by decide +kernel
theorem dX8_isAsTold_24 : decode cX8_isAsTold 24 = .ok (.getfield 47, 3) := by decide +kernel
theorem dX8_isAsTold_27 : decode cX8_isAsTold 27 = .ok (.iload_n 3, 1) := by decide +kernel
theorem dX8_isAsTold_28 : decode cX8_isAsTold 28 = .ok (.iaload, 1) := by decide +kernel
theorem dX8_isAsTold_29 : decode cX8_isAsTold 29 = .ok (.istore 6, 2) := by decide +kernel
theorem dX8_isAsTold_31 : decode cX8_isAsTold 31 = .ok (.aload_n 0, 1) := by decide +kernel
theorem dX8_isAsTold_32 : decode cX8_isAsTold 32 = .ok (.getfield 38, 3) := by decide +kernel
theorem dX8_isAsTold_35 : decode cX8_isAsTold 35 = .ok (.iload_n 3, 1) := by decide +kernel
theorem dX8_isAsTold_36 : decode cX8_isAsTold 36 = .ok (.iaload, 1) := by decide +kernel
theorem dX8_isAsTold_37 : decode cX8_isAsTold 37 = .ok (.tableswitch 425 0 12 #[67, 96, 109, 138, 176, 198, 224, 280, 342, 359, 399, 407, 415], 67) := by decide +kernel
theorem dX8_isAsTold_104 : decode cX8_isAsTold 104 = .ok (.iload 4, 2) := by decide +kernel
theorem dX8_isAsTold_106 : decode cX8_isAsTold 106 = .ok (.invokestatic 133, 3) := by decide +kernel
theorem dX8_isAsTold_109 : decode cX8_isAsTold 109 = .ok (.ifCond .eq 8, 3) := by decide +kernel
theorem dX8_isAsTold_112 : decode cX8_isAsTold 112 = .ok (.iload 5, 2) := by decide +kernel
theorem dX8_isAsTold_114 : decode cX8_isAsTold 114 = .ok (.ifCond .ge 5, 3) := by decide +kernel
theorem dX8_isAsTold_117 : decode cX8_isAsTold 117 = .ok (.iconst 0, 1) := by decide +kernel
theorem dX8_isAsTold_118 : decode cX8_isAsTold 118 = .ok (.ireturn, 1) := by decide +kernel
theorem dX8_isAsTold_119 : decode cX8_isAsTold 119 = .ok (.aload_n 0, 1) := by decide +kernel
theorem dX8_isAsTold_120 : decode cX8_isAsTold 120 = .ok (.iload 4, 2) := by decide +kernel
theorem dX8_isAsTold_122 : decode cX8_isAsTold 122 = .ok (.putfield 242, 3) := by decide +kernel
theorem dX8_isAsTold_125 : decode cX8_isAsTold 125 = .ok (.aload_n 0, 1) := by decide +kernel
theorem dX8_isAsTold_126 : decode cX8_isAsTold 126 = .ok (.iload 5, 2) := by decide +kernel
theorem dX8_isAsTold_128 : decode cX8_isAsTold 128 = .ok (.putfield 245, 3) := by decide +kernel
theorem dX8_isAsTold_131 : decode cX8_isAsTold 131 = .ok (.iconst 1, 1) := by decide +kernel
theorem dX8_isAsTold_132 : decode cX8_isAsTold 132 = .ok (.ireturn, 1) := by decide +kernel
theorem dX8_isAsTold_133 : decode cX8_isAsTold 133 = .ok (.aload_n 0, 1) := by decide +kernel
theorem dX8_isAsTold_134 : decode cX8_isAsTold 134 = .ok (.iload_n 1, 1) := by decide +kernel
theorem dX8_isAsTold_135 : decode cX8_isAsTold 135 = .ok (.iload_n 2, 1) := by decide +kernel
theorem dX8_isAsTold_136 : decode cX8_isAsTold 136 = .ok (.iload 4, 2) := by decide +kernel
theorem dX8_isAsTold_138 : decode cX8_isAsTold 138 = .ok (.iload 5, 2) := by decide +kernel
theorem dX8_isAsTold_140 : decode cX8_isAsTold 140 = .ok (.iload 6, 2) := by decide +kernel
theorem dX8_isAsTold_142 : decode cX8_isAsTold 142 = .ok (.invokevirtual 248, 3) := by decide +kernel
theorem dX8_isAsTold_145 : decode cX8_isAsTold 145 = .ok (.ireturn, 1) := by decide +kernel
theorem dX8_isAsTold_146 : decode cX8_isAsTold 146 = .ok (.aload_n 0, 1) := by decide +kernel
theorem dX8_isAsTold_147 : decode cX8_isAsTold 147 = .ok (.getfield 239, 3) := by decide +kernel
theorem dX8_isAsTold_150 : decode cX8_isAsTold 150 = .ok (.ifCond .eq 23, 3) := by decide +kernel
theorem dX8_isAsTold_153 : decode cX8_isAsTold 153 = .ok (.aload_n 0, 1) := by decide +kernel
theorem dX8_isAsTold_154 : decode cX8_isAsTold 154 = .ok (.getfield 224, 3) := by decide +kernel
theorem dX8_isAsTold_157 : decode cX8_isAsTold 157 = .ok (.ifCond .ne 16, 3) := by decide +kernel
theorem dX8_isAsTold_160 : decode cX8_isAsTold 160 = .ok (.aload_n 0, 1) := by decide +kernel
theorem dX8_isAsTold_161 : decode cX8_isAsTold 161 = .ok (.getfield 221, 3) := by decide +kernel
theorem dX8_isAsTold_164 : decode cX8_isAsTold 164 = .ok (.iload 4, 2) := by decide +kernel
theorem dX8_isAsTold_166 : decode cX8_isAsTold 166 = .ok (.if_icmp .ne 7, 3) := by decide +kernel
theorem dX8_isAsTold_169 : decode cX8_isAsTold 169 = .ok (.iconst 1, 1) := by decide +kernel
theorem dX8_isAsTold_170 : decode cX8_isAsTold 170 = .ok (.goto 4, 3) := by decide +kernel
theorem dX8_isAsTold_173 : decode cX8_isAsTold 173 = .ok (.iconst 0, 1) := by decide +kernel
theorem dX8_isAsTold_174 : decode cX8_isAsTold 174 = .ok (.ireturn, 1) := by decide +kernel
theorem dX8_isAsTold_175 : decode cX8_isAsTold 175 = .ok (.aload_n 0, 1) := by decide +kernel
theorem dX8_isAsTold_176 : decode cX8_isAsTold 176 = .ok (.getfield 239, 3) := by decide +kernel
theorem dX8_isAsTold_179 : decode cX8_isAsTold 179 = .ok (.ifCond .eq 32, 3) := by decide +kernel
theorem dX8_isAsTold_182 : decode cX8_isAsTold 182 = .ok (.aload_n 0, 1) := by decide +kernel
theorem dX8_isAsTold_183 : decode cX8_isAsTold 183 = .ok (.getfield 224, 3) := by decide +kernel
theorem dX8_isAsTold_186 : decode cX8_isAsTold 186 = .ok (.ifCond .le 25, 3) := by decide +kernel
theorem dX8_isAsTold_189 : decode cX8_isAsTold 189 = .ok (.aload_n 0, 1) := by decide +kernel
theorem dX8_isAsTold_190 : decode cX8_isAsTold 190 = .ok (.getfield 224, 3) := by decide +kernel
theorem dX8_isAsTold_193 : decode cX8_isAsTold 193 = .ok (.iload 4, 2) := by decide +kernel
theorem dX8_isAsTold_195 : decode cX8_isAsTold 195 = .ok (.if_icmp .ne 16, 3) := by decide +kernel
theorem dX8_isAsTold_198 : decode cX8_isAsTold 198 = .ok (.aload_n 0, 1) := by decide +kernel
theorem dX8_isAsTold_199 : decode cX8_isAsTold 199 = .ok (.getfield 227, 3) := by decide +kernel
theorem dX8_isAsTold_202 : decode cX8_isAsTold 202 = .ok (.iload 5, 2) := by decide +kernel
theorem dX8_isAsTold_204 : decode cX8_isAsTold 204 = .ok (.if_icmp .ne 7, 3) := by decide +kernel
theorem dX8_isAsTold_207 : decode cX8_isAsTold 207 = .ok (.iconst 1, 1) := by decide +kernel
theorem dX8_isAsTold_208 : decode cX8_isAsTold 208 = .ok (.goto 4, 3) := by decide +kernel
theorem dX8_isAsTold_211 : decode cX8_isAsTold 211 = .ok (.iconst 0, 1) := by decide +kernel
theorem dX8_isAsTold_212 : decode cX8_isAsTold 212 = .ok (.ireturn, 1) := by decide +kernel
theorem dX8_isAsTold_213 : decode cX8_isAsTold 213 = .ok (.aload_n 0, 1) := by decide +kernel
theorem dX8_isAsTold_214 : decode cX8_isAsTold 214 = .ok (.getfield 239, 3) := by decide +kernel
theorem dX8_isAsTold_217 : decode cX8_isAsTold 217 = .ok (.ifCond .eq 16, 3) := by decide +kernel
theorem dX8_isAsTold_220 : decode cX8_isAsTold 220 = .ok (.aload_n 0, 1) := by decide +kernel
theorem dX8_isAsTold_221 : decode cX8_isAsTold 221 = .ok (.getfield 230, 3) := by decide +kernel
theorem dX8_isAsTold_224 : decode cX8_isAsTold 224 = .ok (.iload 4, 2) := by decide +kernel
theorem dX8_isAsTold_226 : decode cX8_isAsTold 226 = .ok (.if_icmp .gt 7, 3) := by decide +kernel
theorem dX8_isAsTold_229 : decode cX8_isAsTold 229 = .ok (.iconst 1, 1) := by decide +kernel
theorem dX8_isAsTold_230 : decode cX8_isAsTold 230 = .ok (.goto 4, 3) := by decide +kernel
theorem dX8_isAsTold_233 : decode cX8_isAsTold 233 = .ok (.iconst 0, 1) := by decide +kernel
theorem dX8_isAsTold_234 : decode cX8_isAsTold 234 = .ok (.ireturn, 1) := by decide +kernel
theorem dX8_isAsTold_235 : decode cX8_isAsTold 235 = .ok (.iload 4, 2) := by decide +kernel
theorem dX8_isAsTold_237 : decode cX8_isAsTold 237 = .ok (.invokestatic 133, 3) := by decide +kernel
theorem dX8_isAsTold_240 : decode cX8_isAsTold 240 = .ok (.ifCond .eq 19, 3) := by decide +kernel
theorem dX8_isAsTold_243 : decode cX8_isAsTold 243 = .ok (.aload_n 0, 1) := by decide +kernel
theorem dX8_isAsTold_244 : decode cX8_isAsTold 244 = .ok (.getfield 7, 3) := by decide +kernel
theorem dX8_isAsTold_247 : decode cX8_isAsTold 247 = .ok (.iload 4, 2) := by decide +kernel
theorem dX8_isAsTold_249 : decode cX8_isAsTold 249 = .ok (.iaload, 1) := by decide +kernel
theorem dX8_isAsTold_250 : decode cX8_isAsTold 250 = .ok (.iload 5, 2) := by decide +kernel
theorem dX8_isAsTold_252 : decode cX8_isAsTold 252 = .ok (.if_icmp .ne 7, 3) := by decide +kernel
theorem dX8_isAsTold_255 : decode cX8_isAsTold 255 = .ok (.iconst 1, 1) := by decide +kernel
theorem dX8_isAsTold_256 : decode cX8_isAsTold 256 = .ok (.goto 4, 3) := by decide +kernel
theorem dX8_isAsTold_259 : decode cX8_isAsTold 259 = .ok (.iconst 0, 1) := by decide +kernel
theorem dX8_isAsTold_260 : decode cX8_isAsTold 260 = .ok (.ireturn, 1) := by decide +kernel
theorem dX8_isAsTold_261 : decode cX8_isAsTold 261 = .ok (.iload 4, 2) := by decide +kernel
theorem dX8_isAsTold_263 : decode cX8_isAsTold 263 = .ok (.i2l, 1) := by decide +kernel
theorem dX8_isAsTold_264 : decode cX8_isAsTold 264 = .ok (.lconst 0, 1) := by decide +kernel
theorem dX8_isAsTold_265 : decode cX8_isAsTold 265 = .ok (.aload_n 0, 1) := by decide +kernel
theorem dX8_isAsTold_266 : decode cX8_isAsTold 266 = .ok (.getfield 127, 3) := by decide +kernel
theorem dX8_isAsTold_269 : decode cX8_isAsTold 269 = .ok (.iconst 1, 1) := by decide +kernel
theorem dX8_isAsTold_270 : decode cX8_isAsTold 270 = .ok (.isub, 1) := by decide +kernel
theorem dX8_isAsTold_271 : decode cX8_isAsTold 271 = .ok (.i2l, 1) := by decide +kernel
theorem dX8_isAsTold_272 : decode cX8_isAsTold 272 = .ok (.invokestatic 123, 3) := by decide +kernel
theorem dX8_isAsTold_275 : decode cX8_isAsTold 275 = .ok (.ifCond .eq 40, 3) := by decide +kernel
theorem dX8_isAsTold_278 : decode cX8_isAsTold 278 = .ok (.iload 5, 2) := by decide +kernel
theorem dX8_isAsTold_280 : decode cX8_isAsTold 280 = .ok (.i2l, 1) := by decide +kernel
theorem dX8_isAsTold_281 : decode cX8_isAsTold 281 = .ok (.lconst 0, 1) := by decide +kernel
theorem dX8_isAsTold_282 : decode cX8_isAsTold 282 = .ok (.ldc2_w 139, 3) := by decide +kernel
theorem dX8_isAsTold_285 : decode cX8_isAsTold 285 = .ok (.invokestatic 123, 3) := by decide +kernel
theorem dX8_isAsTold_288 : decode cX8_isAsTold 288 = .ok (.ifCond .eq 27, 3) := by decide +kernel
theorem dX8_isAsTold_291 : decode cX8_isAsTold 291 = .ok (.aload_n 0, 1) := by decide +kernel
theorem dX8_isAsTold_292 : decode cX8_isAsTold 292 = .ok (.getfield 7, 3) := by decide +kernel
theorem dX8_isAsTold_295 : decode cX8_isAsTold 295 = .ok (.bipush 12, 2) := by decide +kernel
theorem dX8_isAsTold_297 : decode cX8_isAsTold 297 = .ok (.iconst 4, 1) := by decide +kernel
theorem dX8_isAsTold_298 : decode cX8_isAsTold 298 = .ok (.iload 4, 2) := by decide +kernel
theorem dX8_isAsTold_300 : decode cX8_isAsTold 300 = .ok (.imul, 1) := by decide +kernel
theorem dX8_isAsTold_301 : decode cX8_isAsTold 301 = .ok (.iadd, 1) := by decide +kernel
theorem dX8_isAsTold_302 : decode cX8_isAsTold 302 = .ok (.iload 5, 2) := by decide +kernel
theorem dX8_isAsTold_304 : decode cX8_isAsTold 304 = .ok (.iadd, 1) := by decide +kernel
theorem dX8_isAsTold_305 : decode cX8_isAsTold 305 = .ok (.iaload, 1) := by decide +kernel
theorem dX8_isAsTold_306 : decode cX8_isAsTold 306 = .ok (.iload 6, 2) := by decide +kernel
theorem dX8_isAsTold_308 : decode cX8_isAsTold 308 = .ok (.if_icmp .ne 7, 3) := by decide +kernel
theorem dX8_isAsTold_311 : decode cX8_isAsTold 311 = .ok (.iconst 1, 1) := by decide +kernel
theorem dX8_isAsTold_312 : decode cX8_isAsTold 312 = .ok (.goto 4, 3) := by decide +kernel
theorem dX8_isAsTold_315 : decode cX8_isAsTold 315 = .ok (.iconst 0, 1) := by decide +kernel
theorem dX8_isAsTold_316 : decode cX8_isAsTold 316 = .ok (.ireturn, 1) := by decide +kernel
theorem dX8_isAsTold_317 : decode cX8_isAsTold 317 = .ok (.iload 4, 2) := by decide +kernel
theorem dX8_isAsTold_319 : decode cX8_isAsTold 319 = .ok (.i2l, 1) := by decide +kernel
theorem dX8_isAsTold_320 : decode cX8_isAsTold 320 = .ok (.lconst 0, 1) := by decide +kernel
theorem dX8_isAsTold_321 : decode cX8_isAsTold 321 = .ok (.ldc2_w 252, 3) := by decide +kernel
theorem dX8_isAsTold_324 : decode cX8_isAsTold 324 = .ok (.invokestatic 123, 3) := by decide +kernel
theorem dX8_isAsTold_327 : decode cX8_isAsTold 327 = .ok (.ifCond .eq 50, 3) := by decide +kernel
theorem dX8_isAsTold_330 : decode cX8_isAsTold 330 = .ok (.aload_n 0, 1) := by decide +kernel
theorem dX8_isAsTold_331 : decode cX8_isAsTold 331 = .ok (.getfield 74, 3) := by decide +kernel
theorem dX8_isAsTold_334 : decode cX8_isAsTold 334 = .ok (.bipush 29, 2) := by decide +kernel
theorem dX8_isAsTold_336 : decode cX8_isAsTold 336 = .ok (.iaload, 1) := by decide +kernel
theorem dX8_isAsTold_337 : decode cX8_isAsTold 337 = .ok (.iload 4, 2) := by decide +kernel
theorem dX8_isAsTold_339 : decode cX8_isAsTold 339 = .ok (.iadd, 1) := by decide +kernel
theorem dX8_isAsTold_340 : decode cX8_isAsTold 340 = .ok (.aload_n 0, 1) := by decide +kernel
theorem dX8_isAsTold_341 : decode cX8_isAsTold 341 = .ok (.getfield 7, 3) := by decide +kernel
theorem dX8_isAsTold_344 : decode cX8_isAsTold 344 = .ok (.bipush 29, 2) := by decide +kernel
theorem dX8_isAsTold_346 : decode cX8_isAsTold 346 = .ok (.iaload, 1) := by decide +kernel
theorem dX8_isAsTold_347 : decode cX8_isAsTold 347 = .ok (.if_icmp .ge 30, 3) := by decide +kernel
theorem dX8_isAsTold_350 : decode cX8_isAsTold 350 = .ok (.aload_n 0, 1) := by decide +kernel
theorem dX8_isAsTold_351 : decode cX8_isAsTold 351 = .ok (.getfield 7, 3) := by decide +kernel
theorem dX8_isAsTold_354 : decode cX8_isAsTold 354 = .ok (.bipush 30, 2) := by decide +kernel
theorem dX8_isAsTold_356 : decode cX8_isAsTold 356 = .ok (.aload_n 0, 1) := by decide +kernel
theorem dX8_isAsTold_357 : decode cX8_isAsTold 357 = .ok (.getfield 74, 3) := by decide +kernel
theorem dX8_isAsTold_360 : decode cX8_isAsTold 360 = .ok (.bipush 29, 2) := by decide +kernel
theorem dX8_isAsTold_362 : decode cX8_isAsTold 362 = .ok (.iaload, 1) := by decide +kernel
theorem dX8_isAsTold_363 : decode cX8_isAsTold 363 = .ok (.iadd, 1) := by decide +kernel
theorem dX8_isAsTold_364 : decode cX8_isAsTold 364 = .ok (.iload 4, 2) := by decide +kernel
theorem dX8_isAsTold_366 : decode cX8_isAsTold 366 = .ok (.iadd, 1) := by decide +kernel
theorem dX8_isAsTold_367 : decode cX8_isAsTold 367 = .ok (.iaload, 1) := by decide +kernel
theorem dX8_isAsTold_368 : decode cX8_isAsTold 368 = .ok (.iload 5, 2) := by decide +kernel
theorem dX8_isAsTold_370 : decode cX8_isAsTold 370 = .ok (.if_icmp .ne 7, 3) := by decide +kernel
theorem dX8_isAsTold_373 : decode cX8_isAsTold 373 = .ok (.iconst 1, 1) := by decide +kernel
theorem dX8_isAsTold_374 : decode cX8_isAsTold 374 = .ok (.goto 4, 3) := by decide +kernel
theorem dX8_isAsTold_377 : decode cX8_isAsTold 377 = .ok (.iconst 0, 1) := by decide +kernel
theorem dX8_isAsTold_378 : decode cX8_isAsTold 378 = .ok (.ireturn, 1) := by decide +kernel
theorem dX8_isAsTold_379 : decode cX8_isAsTold 379 = .ok (.aload_n 0, 1) := by decide +kernel
theorem dX8_isAsTold_380 : decode cX8_isAsTold 380 = .ok (.invokevirtual 254, 3) := by decide +kernel
theorem dX8_isAsTold_383 : decode cX8_isAsTold 383 = .ok (.iload 4, 2) := by decide +kernel
theorem dX8_isAsTold_385 : decode cX8_isAsTold 385 = .ok (.i2l, 1) := by decide +kernel
theorem dX8_isAsTold_386 : decode cX8_isAsTold 386 = .ok (.lcmp, 1) := by decide +kernel
theorem dX8_isAsTold_387 : decode cX8_isAsTold 387 = .ok (.ifCond .ne 7, 3) := by decide +kernel
theorem dX8_isAsTold_390 : decode cX8_isAsTold 390 = .ok (.iconst 1, 1) := by decide +kernel
theorem dX8_isAsTold_391 : decode cX8_isAsTold 391 = .ok (.goto 4, 3) := by decide +kernel
theorem dX8_isAsTold_394 : decode cX8_isAsTold 394 = .ok (.iconst 0, 1) := by decide +kernel
theorem dX8_isAsTold_395 : decode cX8_isAsTold 395 = .ok (.ireturn, 1) := by decide +kernel
theorem dX8_isAsTold_396 : decode cX8_isAsTold 396 = .ok (.aload_n 0, 1) := by decide +kernel
theorem dX8_isAsTold_397 : decode cX8_isAsTold 397 = .ok (.getfield 7, 3) := by decide +kernel
theorem dX8_isAsTold_400 : decode cX8_isAsTold 400 = .ok (.bipush 28, 2) := by decide +kernel
theorem dX8_isAsTold_402 : decode cX8_isAsTold 402 = .ok (.dup2, 1) := by decide +kernel
theorem dX8_isAsTold_403 : decode cX8_isAsTold 403 = .ok (.iaload, 1) := by decide +kernel
theorem dX8_isAsTold_404 : decode cX8_isAsTold 404 = .ok (.iload 4, 2) := by decide +kernel
theorem dX8_isAsTold_406 : decode cX8_isAsTold 406 = .ok (.i2l, 1) := by decide +kernel
theorem dX8_isAsTold_407 : decode cX8_isAsTold 407 = .ok (.lconst 0, 1) := by decide +kernel
theorem dX8_isAsTold_408 : decode cX8_isAsTold 408 = .ok (.ldc2_w 152, 3) := by decide +kernel
theorem dX8_isAsTold_411 : decode cX8_isAsTold 411 = .ok (.invokestatic 123, 3) := by decide +kernel
theorem dX8_isAsTold_414 : decode cX8_isAsTold 414 = .ok (.ifCond .eq 8, 3) := by decide +kernel
theorem dX8_isAsTold_417 : decode cX8_isAsTold 417 = .ok (.iload 4, 2) := by decide +kernel
theorem dX8_isAsTold_419 : decode cX8_isAsTold 419 = .ok (.goto 4, 3) := by decide +kernel
theorem dX8_isAsTold_422 : decode cX8_isAsTold 422 = .ok (.iconst 0, 1) := by decide +kernel
theorem dX8_isAsTold_423 : decode cX8_isAsTold 423 = .ok (.iadd, 1) := by decide +kernel
theorem dX8_isAsTold_424 : decode cX8_isAsTold 424 = .ok (.iastore, 1) := by decide +kernel
theorem dX8_isAsTold_425 : decode cX8_isAsTold 425 = .ok (.iload 4, 2) := by decide +kernel
theorem dX8_isAsTold_427 : decode cX8_isAsTold 427 = .ok (.i2l, 1) := by decide +kernel
theorem dX8_isAsTold_428 : decode cX8_isAsTold 428 = .ok (.lconst 0, 1) := by decide +kernel
theorem dX8_isAsTold_429 : decode cX8_isAsTold 429 = .ok (.ldc2_w 152, 3) := by decide +kernel
theorem dX8_isAsTold_432 : decode cX8_isAsTold 432 = .ok (.invokestatic 123, 3) := by decide +kernel
theorem dX8_isAsTold_435 : decode cX8_isAsTold 435 = .ok (.ireturn, 1) := by decide +kernel
theorem dX8_isAsTold_436 : decode cX8_isAsTold 436 = .ok (.aload_n 0, 1) := by decide +kernel
theorem dX8_isAsTold_437 : decode cX8_isAsTold 437 = .ok (.iconst 0, 1) := by decide +kernel
theorem dX8_isAsTold_438 : decode cX8_isAsTold 438 = .ok (.iload 4, 2) := by decide +kernel
theorem dX8_isAsTold_440 : decode cX8_isAsTold 440 = .ok (.invokevirtual 258, 3) := by decide +kernel
theorem dX8_isAsTold_443 : decode cX8_isAsTold 443 = .ok (.ireturn, 1) := by decide +kernel
theorem dX8_isAsTold_444 : decode cX8_isAsTold 444 = .ok (.aload_n 0, 1) := by decide +kernel
theorem dX8_isAsTold_445 : decode cX8_isAsTold 445 = .ok (.iconst 1, 1) := by decide +kernel
theorem dX8_isAsTold_446 : decode cX8_isAsTold 446 = .ok (.iload 4, 2) := by decide +kernel
theorem dX8_isAsTold_448 : decode cX8_isAsTold 448 = .ok (.invokevirtual 258, 3) := by decide +kernel
theorem dX8_isAsTold_451 : decode cX8_isAsTold 451 = .ok (.ireturn, 1) := by decide +kernel
theorem dX8_isAsTold_452 : decode cX8_isAsTold 452 = .ok (.aload_n 0, 1) := by decide +kernel
theorem dX8_isAsTold_453 : decode cX8_isAsTold 453 = .ok (.iconst 1, 1) := by decide +kernel
theorem dX8_isAsTold_454 : decode cX8_isAsTold 454 = .ok (.iload 4, 2) := by decide +kernel
theorem dX8_isAsTold_456 : decode cX8_isAsTold 456 = .ok (.iload 5, 2) := by decide +kernel
theorem dX8_isAsTold_458 : decode cX8_isAsTold 458 = .ok (.invokevirtual 262, 3) := by decide +kernel
theorem dX8_isAsTold_461 : decode cX8_isAsTold 461 = .ok (.ireturn, 1) := by decide +kernel
theorem dX8_isAsTold_462 : decode cX8_isAsTold 462 = .ok (.aload_n 0, 1) := by decide +kernel
theorem dX8_isAsTold_463 : decode cX8_isAsTold 463 = .ok (.iconst 2, 1) := by decide +kernel
theorem dX8_isAsTold_464 : decode cX8_isAsTold 464 = .ok (.iload 4, 2) := by decide +kernel
theorem dX8_isAsTold_466 : decode cX8_isAsTold 466 = .ok (.iload 5, 2) := by decide +kernel
theorem dX8_isAsTold_468 : decode cX8_isAsTold 468 = .ok (.invokevirtual 262, 3) := by decide +kernel
theorem dX8_isAsTold_471 : decode cX8_isAsTold 471 = .ok (.ireturn, 1) := by decide +kernel
theorem dX8_runs_0 : decode cX8_runs 0 = .ok (.iconst 0, 1) := by decide +kernel
theorem dX8_runs_1 : decode cX8_runs 1 = .ok (.istore_n 2, 1) := by decide +kernel
theorem dX8_runs_2 : decode cX8_runs 2 = .ok (.iload_n 2, 1) := by decide +kernel
theorem dX8_runs_3 : decode cX8_runs 3 = .ok (.bipush 70, 2) := by decide +kernel
theorem dX8_runs_5 : decode cX8_runs 5 = .ok (.if_icmp .ge 21, 3) := by decide +kernel
theorem dX8_runs_8 : decode cX8_runs 8 = .ok (.aload_n 0, 1) := by decide +kernel
theorem dX8_runs_9 : decode cX8_runs 9 = .ok (.getfield 74, 3) := by decide +kernel
theorem dX8_runs_12 : decode cX8_runs 12 = .ok (.iload_n 2, 1) := by decide +kernel
theorem dX8_runs_13 : decode cX8_runs 13 = .ok (.aload_n 0, 1) := by decide +kernel
theorem dX8_runs_14 : decode cX8_runs 14 = .ok (.getfield 7, 3) := by decide +kernel
theorem dX8_runs_17 : decode cX8_runs 17 = .ok (.iload_n 2, 1) := by decide +kernel
theorem dX8_runs_18 : decode cX8_runs 18 = .ok (.iaload, 1) := by decide +kernel
theorem dX8_runs_19 : decode cX8_runs 19 = .ok (.iastore, 1) := by decide +kernel
theorem dX8_runs_20 : decode cX8_runs 20 = .ok (.iinc 2 1, 3) := by decide +kernel
theorem dX8_runs_23 : decode cX8_runs 23 = .ok (.goto (-21), 3) := by decide +kernel
theorem dX8_runs_26 : decode cX8_runs 26 = .ok (.iconst 0, 1) := by decide +kernel
theorem dX8_runs_27 : decode cX8_runs 27 = .ok (.istore_n 2, 1) := by decide +kernel
theorem dX8_runs_28 : decode cX8_runs 28 = .ok (.iload_n 2, 1) := by decide +kernel
theorem dX8_runs_29 : decode cX8_runs 29 = .ok (.iconst 4, 1) := by decide +kernel
theorem dX8_runs_30 : decode cX8_runs 30 = .ok (.if_icmp .ge 16, 3) := by decide +kernel
theorem dX8_runs_33 : decode cX8_runs 33 = .ok (.aload_n 0, 1) := by decide +kernel
theorem dX8_runs_34 : decode cX8_runs 34 = .ok (.getfield 68, 3) := by decide +kernel
theorem dX8_runs_37 : decode cX8_runs 37 = .ok (.iload_n 2, 1) := by decide +kernel
theorem dX8_runs_38 : decode cX8_runs 38 = .ok (.iconst 0, 1) := by decide +kernel
theorem dX8_runs_39 : decode cX8_runs 39 = .ok (.iastore, 1) := by decide +kernel
theorem dX8_runs_40 : decode cX8_runs 40 = .ok (.iinc 2 1, 3) := by decide +kernel
theorem dX8_runs_43 : decode cX8_runs 43 = .ok (.goto (-15), 3) := by decide +kernel
theorem dX8_runs_46 : decode cX8_runs 46 = .ok (.iconst 0, 1) := by decide +kernel
theorem dX8_runs_47 : decode cX8_runs 47 = .ok (.istore_n 2, 1) := by decide +kernel
theorem dX8_runs_48 : decode cX8_runs 48 = .ok (.iload_n 2, 1) := by decide +kernel
theorem dX8_runs_49 : decode cX8_runs 49 = .ok (.iconst 3, 1) := by decide +kernel
theorem dX8_runs_50 : decode cX8_runs 50 = .ok (.if_icmp .ge 16, 3) := by decide +kernel
theorem dX8_runs_53 : decode cX8_runs 53 = .ok (.aload_n 0, 1) := by decide +kernel
theorem dX8_runs_54 : decode cX8_runs 54 = .ok (.getfield 80, 3) := by decide +kernel
theorem dX8_runs_57 : decode cX8_runs 57 = .ok (.iload_n 2, 1) := by decide +kernel
theorem dX8_runs_58 : decode cX8_runs 58 = .ok (.iconst 0, 1) := by decide +kernel
theorem dX8_runs_59 : decode cX8_runs 59 = .ok (.bastore, 1) := by decide +kernel
theorem dX8_runs_60 : decode cX8_runs 60 = .ok (.iinc 2 1, 3) := by decide +kernel
theorem dX8_runs_63 : decode cX8_runs 63 = .ok (.goto (-15), 3) := by decide +kernel
theorem dX8_runs_66 : decode cX8_runs 66 = .ok (.aload_n 0, 1) := by decide +kernel
theorem dX8_runs_67 : decode cX8_runs 67 = .ok (.iconst 0, 1) := by decide +kernel
theorem dX8_runs_68 : decode cX8_runs 68 = .ok (.putfield 242, 3) := by decide +kernel
theorem dX8_runs_71 : decode cX8_runs 71 = .ok (.aload_n 0, 1) := by decide +kernel
theorem dX8_runs_72 : decode cX8_runs 72 = .ok (.iconst 0, 1) := by decide +kernel
theorem dX8_runs_73 : decode cX8_runs 73 = .ok (.putfield 245, 3) := by decide +kernel
theorem dX8_runs_76 : decode cX8_runs 76 = .ok (.aload_n 0, 1) := by decide +kernel
theorem dX8_runs_77 : decode cX8_runs 77 = .ok (.iconst 0, 1) := by decide +kernel
theorem dX8_runs_78 : decode cX8_runs 78 = .ok (.putfield 239, 3) := by decide +kernel
theorem dX8_runs_81 : decode cX8_runs 81 = .ok (.iconst 0, 1) := by decide +kernel
theorem dX8_runs_82 : decode cX8_runs 82 = .ok (.istore_n 2, 1) := by decide +kernel
theorem dX8_runs_83 : decode cX8_runs 83 = .ok (.iload_n 2, 1) := by decide +kernel
theorem dX8_runs_84 : decode cX8_runs 84 = .ok (.aload_n 0, 1) := by decide +kernel
theorem dX8_runs_85 : decode cX8_runs 85 = .ok (.getfield 35, 3) := by decide +kernel
theorem dX8_runs_88 : decode cX8_runs 88 = .ok (.iload_n 1, 1) := by decide +kernel
theorem dX8_runs_89 : decode cX8_runs 89 = .ok (.iaload, 1) := by decide +kernel
theorem dX8_runs_90 : decode cX8_runs 90 = .ok (.if_icmp .ge 18, 3) := by decide +kernel
theorem dX8_runs_93 : decode cX8_runs 93 = .ok (.aload_n 0, 1) := by decide +kernel
theorem dX8_runs_94 : decode cX8_runs 94 = .ok (.iload_n 1, 1) := by decide +kernel
theorem dX8_runs_95 : decode cX8_runs 95 = .ok (.iload_n 2, 1) := by decide +kernel
theorem dX8_runs_96 : decode cX8_runs 96 = .ok (.invokevirtual 265, 3) := by decide +kernel
theorem dX8_runs_99 : decode cX8_runs 99 = .ok (.ifCond .eq 9, 3) := by decide +kernel
theorem dX8_runs_102 : decode cX8_runs 102 = .ok (.iinc 2 1, 3) := by decide +kernel
theorem dX8_runs_105 : decode cX8_runs 105 = .ok (.goto (-22), 3) := by decide +kernel
theorem dX8_runs_108 : decode cX8_runs 108 = .ok (.iconst 0, 1) := by decide +kernel
theorem dX8_runs_109 : decode cX8_runs 109 = .ok (.istore_n 3, 1) := by decide +kernel
theorem dX8_runs_110 : decode cX8_runs 110 = .ok (.iload_n 3, 1) := by decide +kernel
theorem dX8_runs_111 : decode cX8_runs 111 = .ok (.bipush 70, 2) := by decide +kernel
theorem dX8_runs_113 : decode cX8_runs 113 = .ok (.if_icmp .ge 21, 3) := by decide +kernel
theorem dX8_runs_116 : decode cX8_runs 116 = .ok (.aload_n 0, 1) := by decide +kernel
theorem dX8_runs_117 : decode cX8_runs 117 = .ok (.getfield 7, 3) := by decide +kernel
theorem dX8_runs_120 : decode cX8_runs 120 = .ok (.iload_n 3, 1) := by decide +kernel
theorem dX8_runs_121 : decode cX8_runs 121 = .ok (.aload_n 0, 1) := by decide +kernel
theorem dX8_runs_122 : decode cX8_runs 122 = .ok (.getfield 74, 3) := by decide +kernel
theorem dX8_runs_125 : decode cX8_runs 125 = .ok (.iload_n 3, 1) := by decide +kernel
theorem dX8_runs_126 : decode cX8_runs 126 = .ok (.iaload, 1) := by decide +kernel
theorem dX8_runs_127 : decode cX8_runs 127 = .ok (.iastore, 1) := by decide +kernel
theorem dX8_runs_128 : decode cX8_runs 128 = .ok (.iinc 3 1, 3) := by decide +kernel
theorem dX8_runs_131 : decode cX8_runs 131 = .ok (.goto (-21), 3) := by decide +kernel
theorem dX8_runs_134 : decode cX8_runs 134 = .ok (.iconst 0, 1) := by decide +kernel
theorem dX8_runs_135 : decode cX8_runs 135 = .ok (.istore_n 3, 1) := by decide +kernel
theorem dX8_runs_136 : decode cX8_runs 136 = .ok (.iload_n 3, 1) := by decide +kernel
theorem dX8_runs_137 : decode cX8_runs 137 = .ok (.iconst 4, 1) := by decide +kernel
theorem dX8_runs_138 : decode cX8_runs 138 = .ok (.if_icmp .ge 16, 3) := by decide +kernel
theorem dX8_runs_141 : decode cX8_runs 141 = .ok (.aload_n 0, 1) := by decide +kernel
theorem dX8_runs_142 : decode cX8_runs 142 = .ok (.getfield 68, 3) := by decide +kernel
theorem dX8_runs_145 : decode cX8_runs 145 = .ok (.iload_n 3, 1) := by decide +kernel
theorem dX8_runs_146 : decode cX8_runs 146 = .ok (.iconst 0, 1) := by decide +kernel
theorem dX8_runs_147 : decode cX8_runs 147 = .ok (.iastore, 1) := by decide +kernel
theorem dX8_runs_148 : decode cX8_runs 148 = .ok (.iinc 3 1, 3) := by decide +kernel
theorem dX8_runs_151 : decode cX8_runs 151 = .ok (.goto (-15), 3) := by decide +kernel
theorem dX8_runs_154 : decode cX8_runs 154 = .ok (.iload_n 2, 1) := by decide +kernel
theorem dX8_runs_155 : decode cX8_runs 155 = .ok (.aload_n 0, 1) := by decide +kernel
theorem dX8_runs_156 : decode cX8_runs 156 = .ok (.getfield 35, 3) := by decide +kernel
theorem dX8_runs_159 : decode cX8_runs 159 = .ok (.iload_n 1, 1) := by decide +kernel
theorem dX8_runs_160 : decode cX8_runs 160 = .ok (.iaload, 1) := by decide +kernel
theorem dX8_runs_161 : decode cX8_runs 161 = .ok (.if_icmp .ne 7, 3) := by decide +kernel
theorem dX8_runs_164 : decode cX8_runs 164 = .ok (.iconst (-1), 1) := by decide +kernel
theorem dX8_runs_165 : decode cX8_runs 165 = .ok (.goto 4, 3) := by decide +kernel
theorem dX8_runs_168 : decode cX8_runs 168 = .ok (.iload_n 2, 1) := by decide +kernel
theorem dX8_runs_169 : decode cX8_runs 169 = .ok (.ireturn, 1) := by decide +kernel
theorem dX8_run_0 : decode cX8_run 0 = .ok (.iload_n 1, 1) := by decide +kernel
theorem dX8_run_1 : decode cX8_run 1 = .ok (.i2l, 1) := by decide +kernel
theorem dX8_run_2 : decode cX8_run 2 = .ok (.lconst 0, 1) := by decide +kernel
theorem dX8_run_3 : decode cX8_run 3 = .ok (.ldc2_w 237, 3) := by decide +kernel
theorem dX8_run_6 : decode cX8_run 6 = .ok (.invokestatic 123, 3) := by decide +kernel
theorem dX8_run_9 : decode cX8_run 9 = .ok (.ifCond .eq 11, 3) := by decide +kernel
theorem dX8_run_12 : decode cX8_run 12 = .ok (.aload_n 0, 1) := by decide +kernel
theorem dX8_run_13 : decode cX8_run 13 = .ok (.iload_n 1, 1) := by decide +kernel
theorem dX8_run_14 : decode cX8_run 14 = .ok (.invokevirtual 268, 3) := by decide +kernel
theorem dX8_run_17 : decode cX8_run 17 = .ok (.goto 5, 3) := by decide +kernel
theorem dX8_run_20 : decode cX8_run 20 = .ok (.bipush (-2), 2) := by decide +kernel
theorem dX8_run_22 : decode cX8_run 22 = .ok (.ireturn, 1) := by decide +kernel
theorem dX8_ways_0 : decode cX8_ways 0 = .ok (.iload_n 0, 1) := by decide +kernel
theorem dX8_ways_1 : decode cX8_ways 1 = .ok (.iconst 2, 1) := by decide +kernel
theorem dX8_ways_2 : decode cX8_ways 2 = .ok (.if_icmp .eq 14, 3) := by decide +kernel
theorem dX8_ways_5 : decode cX8_ways 5 = .ok (.iload_n 0, 1) := by decide +kernel
theorem dX8_ways_6 : decode cX8_ways 6 = .ok (.iconst 4, 1) := by decide +kernel
theorem dX8_ways_7 : decode cX8_ways 7 = .ok (.if_icmp .eq 9, 3) := by decide +kernel
theorem dX8_ways_10 : decode cX8_ways 10 = .ok (.iload_n 0, 1) := by decide +kernel
theorem dX8_ways_11 : decode cX8_ways 11 = .ok (.bipush 7, 2) := by decide +kernel
theorem dX8_ways_13 : decode cX8_ways 13 = .ok (.if_icmp .ne 7, 3) := by decide +kernel
theorem dX8_ways_16 : decode cX8_ways 16 = .ok (.iconst 2, 1) := by decide +kernel
theorem dX8_ways_17 : decode cX8_ways 17 = .ok (.goto 4, 3) := by decide +kernel
theorem dX8_ways_20 : decode cX8_ways 20 = .ok (.iconst 1, 1) := by decide +kernel
theorem dX8_ways_21 : decode cX8_ways 21 = .ok (.ireturn, 1) := by decide +kernel
theorem dX8_mutants_0 : decode cX8_mutants 0 = .ok (.iload_n 1, 1) := by decide +kernel
theorem dX8_mutants_1 : decode cX8_mutants 1 = .ok (.i2l, 1) := by decide +kernel
theorem dX8_mutants_2 : decode cX8_mutants 2 = .ok (.lconst 0, 1) := by decide +kernel
theorem dX8_mutants_3 : decode cX8_mutants 3 = .ok (.aload_n 0, 1) := by decide +kernel
theorem dX8_mutants_4 : decode cX8_mutants 4 = .ok (.getfield 127, 3) := by decide +kernel
theorem dX8_mutants_7 : decode cX8_mutants 7 = .ok (.iconst 1, 1) := by decide +kernel
theorem dX8_mutants_8 : decode cX8_mutants 8 = .ok (.isub, 1) := by decide +kernel
theorem dX8_mutants_9 : decode cX8_mutants 9 = .ok (.i2l, 1) := by decide +kernel
theorem dX8_mutants_10 : decode cX8_mutants 10 = .ok (.invokestatic 123, 3) := by decide +kernel
theorem dX8_mutants_13 : decode cX8_mutants 13 = .ok (.ifCond .ne 5, 3) := by decide +kernel
theorem dX8_mutants_16 : decode cX8_mutants 16 = .ok (.iconst (-1), 1) := by decide +kernel
theorem dX8_mutants_17 : decode cX8_mutants 17 = .ok (.ireturn, 1) := by decide +kernel
theorem dX8_mutants_18 : decode cX8_mutants 18 = .ok (.iconst 0, 1) := by decide +kernel
theorem dX8_mutants_19 : decode cX8_mutants 19 = .ok (.istore_n 2, 1) := by decide +kernel
theorem dX8_mutants_20 : decode cX8_mutants 20 = .ok (.iconst 3, 1) := by decide +kernel
theorem dX8_mutants_21 : decode cX8_mutants 21 = .ok (.iload_n 1, 1) := by decide +kernel
theorem dX8_mutants_22 : decode cX8_mutants 22 = .ok (.imul, 1) := by decide +kernel
theorem dX8_mutants_23 : decode cX8_mutants 23 = .ok (.istore_n 3, 1) := by decide +kernel
theorem dX8_mutants_24 : decode cX8_mutants 24 = .ok (.iload_n 3, 1) := by decide +kernel
theorem dX8_mutants_25 : decode cX8_mutants 25 = .ok (.iconst 3, 1) := by decide +kernel
theorem dX8_mutants_26 : decode cX8_mutants 26 = .ok (.iload_n 1, 1) := by decide +kernel
theorem dX8_mutants_27 : decode cX8_mutants 27 = .ok (.imul, 1) := by decide +kernel
theorem dX8_mutants_28 : decode cX8_mutants 28 = .ok (.iconst 3, 1) := by decide +kernel
theorem dX8_mutants_29 : decode cX8_mutants 29 = .ok (.iadd, 1) := by decide +kernel
theorem dX8_mutants_30 : decode cX8_mutants 30 = .ok (.if_icmp .ge 47, 3) := by decide +kernel
theorem dX8_mutants_33 : decode cX8_mutants 33 = .ok (.iconst 0, 1) := by decide +kernel
theorem dX8_mutants_34 : decode cX8_mutants 34 = .ok (.istore 4, 2) := by decide +kernel
theorem dX8_mutants_36 : decode cX8_mutants 36 = .ok (.iload 4, 2) := by decide +kernel
theorem dX8_mutants_38 : decode cX8_mutants 38 = .ok (.aload_n 0, 1) := by decide +kernel
theorem dX8_mutants_39 : decode cX8_mutants 39 = .ok (.getfield 13, 3) := by decide +kernel
theorem dX8_mutants_42 : decode cX8_mutants 42 = .ok (.iload_n 3, 1) := by decide +kernel
theorem dX8_mutants_43 : decode cX8_mutants 43 = .ok (.iaload, 1) := by decide +kernel
theorem dX8_mutants_44 : decode cX8_mutants 44 = .ok (.if_icmp .ge 27, 3) := by decide +kernel
theorem dX8_mutants_47 : decode cX8_mutants 47 = .ok (.iload_n 2, 1) := by decide +kernel
theorem dX8_mutants_48 : decode cX8_mutants 48 = .ok (.aload_n 0, 1) := by decide +kernel
theorem dX8_mutants_49 : decode cX8_mutants 49 = .ok (.getfield 16, 3) := by decide +kernel
theorem dX8_mutants_52 : decode cX8_mutants 52 = .ok (.bipush 8, 2) := by decide +kernel
theorem dX8_mutants_54 : decode cX8_mutants 54 = .ok (.iload_n 3, 1) := by decide +kernel
theorem dX8_mutants_55 : decode cX8_mutants 55 = .ok (.imul, 1) := by decide +kernel
theorem dX8_mutants_56 : decode cX8_mutants 56 = .ok (.iload 4, 2) := by decide +kernel
theorem dX8_mutants_58 : decode cX8_mutants 58 = .ok (.iadd, 1) := by decide +kernel
theorem dX8_mutants_59 : decode cX8_mutants 59 = .ok (.iaload, 1) := by decide +kernel
theorem dX8_mutants_60 : decode cX8_mutants 60 = .ok (.invokestatic 271, 3) := by decide +kernel
theorem dX8_mutants_63 : decode cX8_mutants 63 = .ok (.iadd, 1) := by decide +kernel
theorem dX8_mutants_64 : decode cX8_mutants 64 = .ok (.istore_n 2, 1) := by decide +kernel
theorem dX8_mutants_65 : decode cX8_mutants 65 = .ok (.iinc 4 1, 3) := by decide +kernel
theorem dX8_mutants_68 : decode cX8_mutants 68 = .ok (.goto (-32), 3) := by decide +kernel
theorem dX8_mutants_71 : decode cX8_mutants 71 = .ok (.iinc 3 1, 3) := by decide +kernel
theorem dX8_mutants_74 : decode cX8_mutants 74 = .ok (.goto (-50), 3) := by decide +kernel
theorem dX8_mutants_77 : decode cX8_mutants 77 = .ok (.iload_n 2, 1) := by decide +kernel
theorem dX8_mutants_78 : decode cX8_mutants 78 = .ok (.ireturn, 1) := by decide +kernel
theorem dX8_find_0 : decode cX8_find 0 = .ok (.iload_n 2, 1) := by decide +kernel
theorem dX8_find_1 : decode cX8_find 1 = .ok (.istore_n 3, 1) := by decide +kernel
theorem dX8_find_2 : decode cX8_find 2 = .ok (.iconst 3, 1) := by decide +kernel
theorem dX8_find_3 : decode cX8_find 3 = .ok (.iload_n 1, 1) := by decide +kernel
theorem dX8_find_4 : decode cX8_find 4 = .ok (.imul, 1) := by decide +kernel
theorem dX8_find_5 : decode cX8_find 5 = .ok (.istore 4, 2) := by decide +kernel
theorem dX8_find_7 : decode cX8_find 7 = .ok (.iload 4, 2) := by decide +kernel
theorem dX8_find_9 : decode cX8_find 9 = .ok (.iconst 3, 1) := by decide +kernel
theorem dX8_find_10 : decode cX8_find 10 = .ok (.iload_n 1, 1) := by decide +kernel
theorem dX8_find_11 : decode cX8_find 11 = .ok (.imul, 1) := by decide +kernel
theorem dX8_find_12 : decode cX8_find 12 = .ok (.iconst 3, 1) := by decide +kernel
theorem dX8_find_13 : decode cX8_find 13 = .ok (.iadd, 1) := by decide +kernel
theorem dX8_find_14 : decode cX8_find 14 = .ok (.if_icmp .ge 82, 3) := by decide +kernel
theorem dX8_find_17 : decode cX8_find 17 = .ok (.iconst 0, 1) := by decide +kernel
theorem dX8_find_18 : decode cX8_find 18 = .ok (.istore 5, 2) := by decide +kernel
theorem dX8_find_20 : decode cX8_find 20 = .ok (.iload 5, 2) := by decide +kernel
theorem dX8_find_22 : decode cX8_find 22 = .ok (.aload_n 0, 1) := by decide +kernel
theorem dX8_find_23 : decode cX8_find 23 = .ok (.getfield 13, 3) := by decide +kernel
theorem dX8_find_26 : decode cX8_find 26 = .ok (.iload 4, 2) := by decide +kernel
theorem dX8_find_28 : decode cX8_find 28 = .ok (.iaload, 1) := by decide +kernel
theorem dX8_find_29 : decode cX8_find 29 = .ok (.if_icmp .ge 61, 3) := by decide +kernel
theorem dX8_find_32 : decode cX8_find 32 = .ok (.bipush 8, 2) := by decide +kernel
theorem dX8_find_34 : decode cX8_find 34 = .ok (.iload 4, 2) := by decide +kernel
theorem dX8_find_36 : decode cX8_find 36 = .ok (.imul, 1) := by decide +kernel
theorem dX8_find_37 : decode cX8_find 37 = .ok (.iload 5, 2) := by decide +kernel
theorem dX8_find_39 : decode cX8_find 39 = .ok (.iadd, 1) := by decide +kernel
theorem dX8_find_40 : decode cX8_find 40 = .ok (.istore 6, 2) := by decide +kernel
theorem dX8_find_42 : decode cX8_find 42 = .ok (.iload_n 3, 1) := by decide +kernel
theorem dX8_find_43 : decode cX8_find 43 = .ok (.i2l, 1) := by decide +kernel
theorem dX8_find_44 : decode cX8_find 44 = .ok (.lconst 0, 1) := by decide +kernel
theorem dX8_find_45 : decode cX8_find 45 = .ok (.aload_n 0, 1) := by decide +kernel
theorem dX8_find_46 : decode cX8_find 46 = .ok (.getfield 16, 3) := by decide +kernel
theorem dX8_find_49 : decode cX8_find 49 = .ok (.iload 6, 2) := by decide +kernel
theorem dX8_find_51 : decode cX8_find 51 = .ok (.iaload, 1) := by decide +kernel
theorem dX8_find_52 : decode cX8_find 52 = .ok (.invokestatic 271, 3) := by decide +kernel
theorem dX8_find_55 : decode cX8_find 55 = .ok (.iconst 1, 1) := by decide +kernel
theorem dX8_find_56 : decode cX8_find 56 = .ok (.isub, 1) := by decide +kernel
theorem dX8_find_57 : decode cX8_find 57 = .ok (.i2l, 1) := by decide +kernel
theorem dX8_find_58 : decode cX8_find 58 = .ok (.invokestatic 123, 3) := by decide +kernel
theorem dX8_find_61 : decode cX8_find 61 = .ok (.ifCond .eq 10, 3) := by decide +kernel
theorem dX8_find_64 : decode cX8_find 64 = .ok (.iconst 2, 1) := by decide +kernel
theorem dX8_find_65 : decode cX8_find 65 = .ok (.iload 6, 2) := by decide +kernel
theorem dX8_find_67 : decode cX8_find 67 = .ok (.imul, 1) := by decide +kernel
theorem dX8_find_68 : decode cX8_find 68 = .ok (.iload_n 3, 1) := by decide +kernel
theorem dX8_find_69 : decode cX8_find 69 = .ok (.iadd, 1) := by decide +kernel
theorem dX8_find_70 : decode cX8_find 70 = .ok (.ireturn, 1) := by decide +kernel
theorem dX8_find_71 : decode cX8_find 71 = .ok (.iload_n 3, 1) := by decide +kernel
theorem dX8_find_72 : decode cX8_find 72 = .ok (.aload_n 0, 1) := by decide +kernel
theorem dX8_find_73 : decode cX8_find 73 = .ok (.getfield 16, 3) := by decide +kernel
theorem dX8_find_76 : decode cX8_find 76 = .ok (.iload 6, 2) := by decide +kernel
theorem dX8_find_78 : decode cX8_find 78 = .ok (.iaload, 1) := by decide +kernel
theorem dX8_find_79 : decode cX8_find 79 = .ok (.invokestatic 271, 3) := by decide +kernel
theorem dX8_find_82 : decode cX8_find 82 = .ok (.isub, 1) := by decide +kernel
theorem dX8_find_83 : decode cX8_find 83 = .ok (.istore_n 3, 1) := by decide +kernel
theorem dX8_find_84 : decode cX8_find 84 = .ok (.iinc 5 1, 3) := by decide +kernel
theorem dX8_find_87 : decode cX8_find 87 = .ok (.goto (-67), 3) := by decide +kernel
theorem dX8_find_90 : decode cX8_find 90 = .ok (.iinc 4 1, 3) := by decide +kernel
theorem dX8_find_93 : decode cX8_find 93 = .ok (.goto (-86), 3) := by decide +kernel
theorem dX8_find_96 : decode cX8_find 96 = .ok (.iconst (-1), 1) := by decide +kernel
theorem dX8_find_97 : decode cX8_find 97 = .ok (.ireturn, 1) := by decide +kernel
theorem dX8_mutant_0 : decode cX8_mutant 0 = .ok (.iload_n 1, 1) := by decide +kernel
theorem dX8_mutant_1 : decode cX8_mutant 1 = .ok (.i2l, 1) := by decide +kernel
theorem dX8_mutant_2 : decode cX8_mutant 2 = .ok (.lconst 0, 1) := by decide +kernel
theorem dX8_mutant_3 : decode cX8_mutant 3 = .ok (.aload_n 0, 1) := by decide +kernel
theorem dX8_mutant_4 : decode cX8_mutant 4 = .ok (.getfield 127, 3) := by decide +kernel
theorem dX8_mutant_7 : decode cX8_mutant 7 = .ok (.iconst 1, 1) := by decide +kernel
theorem dX8_mutant_8 : decode cX8_mutant 8 = .ok (.isub, 1) := by decide +kernel
theorem dX8_mutant_9 : decode cX8_mutant 9 = .ok (.i2l, 1) := by decide +kernel
theorem dX8_mutant_10 : decode cX8_mutant 10 = .ok (.invokestatic 123, 3) := by decide +kernel
theorem dX8_mutant_13 : decode cX8_mutant 13 = .ok (.ifCond .eq 32, 3) := by decide +kernel
theorem dX8_mutant_16 : decode cX8_mutant 16 = .ok (.iload_n 2, 1) := by decide +kernel
theorem dX8_mutant_17 : decode cX8_mutant 17 = .ok (.i2l, 1) := by decide +kernel
theorem dX8_mutant_18 : decode cX8_mutant 18 = .ok (.lconst 0, 1) := by decide +kernel
theorem dX8_mutant_19 : decode cX8_mutant 19 = .ok (.aload_n 0, 1) := by decide +kernel
theorem dX8_mutant_20 : decode cX8_mutant 20 = .ok (.iload_n 1, 1) := by decide +kernel
theorem dX8_mutant_21 : decode cX8_mutant 21 = .ok (.invokevirtual 274, 3) := by decide +kernel
theorem dX8_mutant_24 : decode cX8_mutant 24 = .ok (.iconst 1, 1) := by decide +kernel
theorem dX8_mutant_25 : decode cX8_mutant 25 = .ok (.isub, 1) := by decide +kernel
theorem dX8_mutant_26 : decode cX8_mutant 26 = .ok (.i2l, 1) := by decide +kernel
theorem dX8_mutant_27 : decode cX8_mutant 27 = .ok (.invokestatic 123, 3) := by decide +kernel
theorem dX8_mutant_30 : decode cX8_mutant 30 = .ok (.ifCond .eq 15, 3) := by decide +kernel
theorem dX8_mutant_33 : decode cX8_mutant 33 = .ok (.iload_n 3, 1) := by decide +kernel
theorem dX8_mutant_34 : decode cX8_mutant 34 = .ok (.i2l, 1) := by decide +kernel
theorem dX8_mutant_35 : decode cX8_mutant 35 = .ok (.lconst 0, 1) := by decide +kernel
theorem dX8_mutant_36 : decode cX8_mutant 36 = .ok (.ldc2_w 131, 3) := by decide +kernel
theorem dX8_mutant_39 : decode cX8_mutant 39 = .ok (.invokestatic 123, 3) := by decide +kernel
theorem dX8_mutant_42 : decode cX8_mutant 42 = .ok (.ifCond .ne 5, 3) := by decide +kernel
theorem dX8_mutant_45 : decode cX8_mutant 45 = .ok (.iconst (-1), 1) := by decide +kernel
theorem dX8_mutant_46 : decode cX8_mutant 46 = .ok (.ireturn, 1) := by decide +kernel
theorem dX8_mutant_47 : decode cX8_mutant 47 = .ok (.aload_n 0, 1) := by decide +kernel
theorem dX8_mutant_48 : decode cX8_mutant 48 = .ok (.iload_n 1, 1) := by decide +kernel
theorem dX8_mutant_49 : decode cX8_mutant 49 = .ok (.iload_n 2, 1) := by decide +kernel
theorem dX8_mutant_50 : decode cX8_mutant 50 = .ok (.invokevirtual 277, 3) := by decide +kernel
theorem dX8_mutant_53 : decode cX8_mutant 53 = .ok (.istore 4, 2) := by decide +kernel
theorem dX8_mutant_55 : decode cX8_mutant 55 = .ok (.iload_n 3, 1) := by decide +kernel
theorem dX8_mutant_56 : decode cX8_mutant 56 = .ok (.ifCond .ne 15, 3) := by decide +kernel
theorem dX8_mutant_59 : decode cX8_mutant 59 = .ok (.iload 4, 2) := by decide +kernel
theorem dX8_mutant_61 : decode cX8_mutant 61 = .ok (.iconst 2, 1) := by decide +kernel
theorem dX8_mutant_62 : decode cX8_mutant 62 = .ok (.idiv, 1) := by decide +kernel
theorem dX8_mutant_63 : decode cX8_mutant 63 = .ok (.bipush 8, 2) := by decide +kernel
theorem dX8_mutant_65 : decode cX8_mutant 65 = .ok (.idiv, 1) := by decide +kernel
theorem dX8_mutant_66 : decode cX8_mutant 66 = .ok (.iconst 3, 1) := by decide +kernel
theorem dX8_mutant_67 : decode cX8_mutant 67 = .ok (.irem, 1) := by decide +kernel
theorem dX8_mutant_68 : decode cX8_mutant 68 = .ok (.goto 22, 3) := by decide +kernel
theorem dX8_mutant_71 : decode cX8_mutant 71 = .ok (.iload_n 3, 1) := by decide +kernel
theorem dX8_mutant_72 : decode cX8_mutant 72 = .ok (.iconst 1, 1) := by decide +kernel
theorem dX8_mutant_73 : decode cX8_mutant 73 = .ok (.if_icmp .ne 13, 3) := by decide +kernel
theorem dX8_mutant_76 : decode cX8_mutant 76 = .ok (.iload 4, 2) := by decide +kernel
theorem dX8_mutant_78 : decode cX8_mutant 78 = .ok (.iconst 2, 1) := by decide +kernel
theorem dX8_mutant_79 : decode cX8_mutant 79 = .ok (.idiv, 1) := by decide +kernel
theorem dX8_mutant_80 : decode cX8_mutant 80 = .ok (.bipush 8, 2) := by decide +kernel
theorem dX8_mutant_82 : decode cX8_mutant 82 = .ok (.irem, 1) := by decide +kernel
theorem dX8_mutant_83 : decode cX8_mutant 83 = .ok (.goto 7, 3) := by decide +kernel
theorem dX8_mutant_86 : decode cX8_mutant 86 = .ok (.iload 4, 2) := by decide +kernel
theorem dX8_mutant_88 : decode cX8_mutant 88 = .ok (.iconst 2, 1) := by decide +kernel
theorem dX8_mutant_89 : decode cX8_mutant 89 = .ok (.irem, 1) := by decide +kernel
theorem dX8_mutant_90 : decode cX8_mutant 90 = .ok (.ireturn, 1) := by decide +kernel
theorem dX8_judge_0 : decode cX8_judge 0 = .ok (.iload_n 1, 1) := by decide +kernel
theorem dX8_judge_1 : decode cX8_judge 1 = .ok (.i2l, 1) := by decide +kernel
theorem dX8_judge_2 : decode cX8_judge 2 = .ok (.lconst 0, 1) := by decide +kernel
theorem dX8_judge_3 : decode cX8_judge 3 = .ok (.aload_n 0, 1) := by decide +kernel
theorem dX8_judge_4 : decode cX8_judge 4 = .ok (.getfield 127, 3) := by decide +kernel
theorem dX8_judge_7 : decode cX8_judge 7 = .ok (.iconst 1, 1) := by decide +kernel
theorem dX8_judge_8 : decode cX8_judge 8 = .ok (.isub, 1) := by decide +kernel
theorem dX8_judge_9 : decode cX8_judge 9 = .ok (.i2l, 1) := by decide +kernel
theorem dX8_judge_10 : decode cX8_judge 10 = .ok (.invokestatic 123, 3) := by decide +kernel
theorem dX8_judge_13 : decode cX8_judge 13 = .ok (.ifCond .ne 5, 3) := by decide +kernel
theorem dX8_judge_16 : decode cX8_judge 16 = .ok (.iconst (-1), 1) := by decide +kernel
theorem dX8_judge_17 : decode cX8_judge 17 = .ok (.ireturn, 1) := by decide +kernel
theorem dX8_judge_18 : decode cX8_judge 18 = .ok (.iconst 0, 1) := by decide +kernel
theorem dX8_judge_19 : decode cX8_judge 19 = .ok (.istore_n 2, 1) := by decide +kernel
theorem dX8_judge_20 : decode cX8_judge 20 = .ok (.iconst 0, 1) := by decide +kernel
theorem dX8_judge_21 : decode cX8_judge 21 = .ok (.istore_n 3, 1) := by decide +kernel
theorem dX8_judge_22 : decode cX8_judge 22 = .ok (.iload_n 3, 1) := by decide +kernel
theorem dX8_judge_23 : decode cX8_judge 23 = .ok (.bipush 6, 2) := by decide +kernel
theorem dX8_judge_25 : decode cX8_judge 25 = .ok (.if_icmp .ge 27, 3) := by decide +kernel
theorem dX8_judge_28 : decode cX8_judge 28 = .ok (.iload_n 2, 1) := by decide +kernel
theorem dX8_judge_29 : decode cX8_judge 29 = .ok (.aload_n 0, 1) := by decide +kernel
theorem dX8_judge_30 : decode cX8_judge 30 = .ok (.iload_n 3, 1) := by decide +kernel
theorem dX8_judge_31 : decode cX8_judge 31 = .ok (.invokevirtual 268, 3) := by decide +kernel
theorem dX8_judge_34 : decode cX8_judge 34 = .ok (.ifCond .ge 9, 3) := by decide +kernel
theorem dX8_judge_37 : decode cX8_judge 37 = .ok (.iconst 1, 1) := by decide +kernel
theorem dX8_judge_38 : decode cX8_judge 38 = .ok (.iload_n 3, 1) := by decide +kernel
theorem dX8_judge_39 : decode cX8_judge 39 = .ok (.ishl, 1) := by decide +kernel
theorem dX8_judge_40 : decode cX8_judge 40 = .ok (.goto 4, 3) := by decide +kernel
theorem dX8_judge_43 : decode cX8_judge 43 = .ok (.iconst 0, 1) := by decide +kernel
theorem dX8_judge_44 : decode cX8_judge 44 = .ok (.ior, 1) := by decide +kernel
theorem dX8_judge_45 : decode cX8_judge 45 = .ok (.istore_n 2, 1) := by decide +kernel
theorem dX8_judge_46 : decode cX8_judge 46 = .ok (.iinc 3 1, 3) := by decide +kernel
theorem dX8_judge_49 : decode cX8_judge 49 = .ok (.goto (-27), 3) := by decide +kernel
theorem dX8_judge_52 : decode cX8_judge 52 = .ok (.aload_n 0, 1) := by decide +kernel
theorem dX8_judge_53 : decode cX8_judge 53 = .ok (.getfield 84, 3) := by decide +kernel
theorem dX8_judge_56 : decode cX8_judge 56 = .ok (.iload_n 1, 1) := by decide +kernel
theorem dX8_judge_57 : decode cX8_judge 57 = .ok (.aload_n 0, 1) := by decide +kernel
theorem dX8_judge_58 : decode cX8_judge 58 = .ok (.iload_n 1, 1) := by decide +kernel
theorem dX8_judge_59 : decode cX8_judge 59 = .ok (.invokevirtual 274, 3) := by decide +kernel
theorem dX8_judge_62 : decode cX8_judge 62 = .ok (.iastore, 1) := by decide +kernel
theorem dX8_judge_63 : decode cX8_judge 63 = .ok (.iconst 0, 1) := by decide +kernel
theorem dX8_judge_64 : decode cX8_judge 64 = .ok (.istore_n 3, 1) := by decide +kernel
theorem dX8_judge_65 : decode cX8_judge 65 = .ok (.iconst 0, 1) := by decide +kernel
theorem dX8_judge_66 : decode cX8_judge 66 = .ok (.istore 4, 2) := by decide +kernel
theorem dX8_judge_68 : decode cX8_judge 68 = .ok (.iload 4, 2) := by decide +kernel
theorem dX8_judge_70 : decode cX8_judge 70 = .ok (.aload_n 0, 1) := by decide +kernel
theorem dX8_judge_71 : decode cX8_judge 71 = .ok (.getfield 84, 3) := by decide +kernel
theorem dX8_judge_74 : decode cX8_judge 74 = .ok (.iload_n 1, 1) := by decide +kernel
theorem dX8_judge_75 : decode cX8_judge 75 = .ok (.iaload, 1) := by decide +kernel
theorem dX8_judge_76 : decode cX8_judge 76 = .ok (.if_icmp .ge 114, 3) := by decide +kernel
theorem dX8_judge_79 : decode cX8_judge 79 = .ok (.aload_n 0, 1) := by decide +kernel
theorem dX8_judge_80 : decode cX8_judge 80 = .ok (.iload_n 1, 1) := by decide +kernel
theorem dX8_judge_81 : decode cX8_judge 81 = .ok (.iload 4, 2) := by decide +kernel
theorem dX8_judge_83 : decode cX8_judge 83 = .ok (.invokevirtual 277, 3) := by decide +kernel
theorem dX8_judge_86 : decode cX8_judge 86 = .ok (.istore 5, 2) := by decide +kernel
theorem dX8_judge_88 : decode cX8_judge 88 = .ok (.aload_n 0, 1) := by decide +kernel
theorem dX8_judge_89 : decode cX8_judge 89 = .ok (.iload 5, 2) := by decide +kernel
theorem dX8_judge_91 : decode cX8_judge 91 = .ok (.iconst 2, 1) := by decide +kernel
theorem dX8_judge_92 : decode cX8_judge 92 = .ok (.idiv, 1) := by decide +kernel
theorem dX8_judge_93 : decode cX8_judge 93 = .ok (.putfield 194, 3) := by decide +kernel
theorem dX8_judge_96 : decode cX8_judge 96 = .ok (.aload_n 0, 1) := by decide +kernel
theorem dX8_judge_97 : decode cX8_judge 97 = .ok (.iconst 1, 1) := by decide +kernel
theorem dX8_judge_98 : decode cX8_judge 98 = .ok (.iload 5, 2) := by decide +kernel
theorem dX8_judge_100 : decode cX8_judge 100 = .ok (.iconst 2, 1) := by decide +kernel
theorem dX8_judge_101 : decode cX8_judge 101 = .ok (.irem, 1) := by decide +kernel
theorem dX8_judge_102 : decode cX8_judge 102 = .ok (.iadd, 1) := by decide +kernel
theorem dX8_judge_103 : decode cX8_judge 103 = .ok (.putfield 191, 3) := by decide +kernel
theorem dX8_judge_106 : decode cX8_judge 106 = .ok (.iconst (-1), 1) := by decide +kernel
theorem dX8_judge_107 : decode cX8_judge 107 = .ok (.istore 6, 2) := by decide +kernel
theorem dX8_judge_109 : decode cX8_judge 109 = .ok (.iconst 0, 1) := by decide +kernel
theorem dX8_judge_110 : decode cX8_judge 110 = .ok (.istore 7, 2) := by decide +kernel
theorem dX8_judge_112 : decode cX8_judge 112 = .ok (.iload 7, 2) := by decide +kernel
theorem dX8_judge_114 : decode cX8_judge 114 = .ok (.bipush 6, 2) := by decide +kernel
theorem dX8_judge_116 : decode cX8_judge 116 = .ok (.if_icmp .ge 41, 3) := by decide +kernel
theorem dX8_judge_119 : decode cX8_judge 119 = .ok (.iload 6, 2) := by decide +kernel
theorem dX8_judge_121 : decode cX8_judge 121 = .ok (.ifCond .ge 36, 3) := by decide +kernel
theorem dX8_judge_124 : decode cX8_judge 124 = .ok (.iload_n 2, 1) := by decide +kernel
theorem dX8_judge_125 : decode cX8_judge 125 = .ok (.iload 7, 2) := by decide +kernel
theorem dX8_judge_127 : decode cX8_judge 127 = .ok (.ishr, 1) := by decide +kernel
theorem dX8_judge_128 : decode cX8_judge 128 = .ok (.iconst 1, 1) := by decide +kernel
theorem dX8_judge_129 : decode cX8_judge 129 = .ok (.iand, 1) := by decide +kernel
theorem dX8_judge_130 : decode cX8_judge 130 = .ok (.iconst 1, 1) := by decide +kernel
theorem dX8_judge_131 : decode cX8_judge 131 = .ok (.if_icmp .ne 17, 3) := by decide +kernel
theorem dX8_judge_134 : decode cX8_judge 134 = .ok (.aload_n 0, 1) := by decide +kernel
theorem dX8_judge_135 : decode cX8_judge 135 = .ok (.iload 7, 2) := by decide +kernel
theorem dX8_judge_137 : decode cX8_judge 137 = .ok (.invokevirtual 268, 3) := by decide +kernel
theorem dX8_judge_140 : decode cX8_judge 140 = .ok (.ifCond .lt 8, 3) := by decide +kernel
theorem dX8_judge_143 : decode cX8_judge 143 = .ok (.iload 7, 2) := by decide +kernel
theorem dX8_judge_145 : decode cX8_judge 145 = .ok (.goto 4, 3) := by decide +kernel
theorem dX8_judge_148 : decode cX8_judge 148 = .ok (.iconst (-1), 1) := by decide +kernel
theorem dX8_judge_149 : decode cX8_judge 149 = .ok (.istore 6, 2) := by decide +kernel
theorem dX8_judge_151 : decode cX8_judge 151 = .ok (.iinc 7 1, 3) := by decide +kernel
theorem dX8_judge_154 : decode cX8_judge 154 = .ok (.goto (-42), 3) := by decide +kernel
theorem dX8_judge_157 : decode cX8_judge 157 = .ok (.aload_n 0, 1) := by decide +kernel
theorem dX8_judge_158 : decode cX8_judge 158 = .ok (.getfield 87, 3) := by decide +kernel
theorem dX8_judge_161 : decode cX8_judge 161 = .ok (.bipush 48, 2) := by decide +kernel
theorem dX8_judge_163 : decode cX8_judge 163 = .ok (.iload_n 1, 1) := by decide +kernel
theorem dX8_judge_164 : decode cX8_judge 164 = .ok (.imul, 1) := by decide +kernel
theorem dX8_judge_165 : decode cX8_judge 165 = .ok (.iload 4, 2) := by decide +kernel
theorem dX8_judge_167 : decode cX8_judge 167 = .ok (.iadd, 1) := by decide +kernel
theorem dX8_judge_168 : decode cX8_judge 168 = .ok (.iload 6, 2) := by decide +kernel
theorem dX8_judge_170 : decode cX8_judge 170 = .ok (.iastore, 1) := by decide +kernel
theorem dX8_judge_171 : decode cX8_judge 171 = .ok (.iload_n 3, 1) := by decide +kernel
theorem dX8_judge_172 : decode cX8_judge 172 = .ok (.iload 6, 2) := by decide +kernel
theorem dX8_judge_174 : decode cX8_judge 174 = .ok (.ifCond .ge 7, 3) := by decide +kernel
theorem dX8_judge_177 : decode cX8_judge 177 = .ok (.iconst 0, 1) := by decide +kernel
theorem dX8_judge_178 : decode cX8_judge 178 = .ok (.goto 4, 3) := by decide +kernel
theorem dX8_judge_181 : decode cX8_judge 181 = .ok (.iconst 1, 1) := by decide +kernel
theorem dX8_judge_182 : decode cX8_judge 182 = .ok (.iadd, 1) := by decide +kernel
theorem dX8_judge_183 : decode cX8_judge 183 = .ok (.istore_n 3, 1) := by decide +kernel
theorem dX8_judge_184 : decode cX8_judge 184 = .ok (.iinc 4 1, 3) := by decide +kernel
theorem dX8_judge_187 : decode cX8_judge 187 = .ok (.goto (-119), 3) := by decide +kernel
theorem dX8_judge_190 : decode cX8_judge 190 = .ok (.aload_n 0, 1) := by decide +kernel
theorem dX8_judge_191 : decode cX8_judge 191 = .ok (.iconst 0, 1) := by decide +kernel
theorem dX8_judge_192 : decode cX8_judge 192 = .ok (.putfield 191, 3) := by decide +kernel
theorem dX8_judge_195 : decode cX8_judge 195 = .ok (.iload_n 3, 1) := by decide +kernel
theorem dX8_judge_196 : decode cX8_judge 196 = .ok (.ireturn, 1) := by decide +kernel
theorem dX8_killer_0 : decode cX8_killer 0 = .ok (.iload_n 1, 1) := by decide +kernel
theorem dX8_killer_1 : decode cX8_killer 1 = .ok (.i2l, 1) := by decide +kernel
theorem dX8_killer_2 : decode cX8_killer 2 = .ok (.lconst 0, 1) := by decide +kernel
theorem dX8_killer_3 : decode cX8_killer 3 = .ok (.aload_n 0, 1) := by decide +kernel
theorem dX8_killer_4 : decode cX8_killer 4 = .ok (.getfield 127, 3) := by decide +kernel
theorem dX8_killer_7 : decode cX8_killer 7 = .ok (.iconst 1, 1) := by decide +kernel
theorem dX8_killer_8 : decode cX8_killer 8 = .ok (.isub, 1) := by decide +kernel
theorem dX8_killer_9 : decode cX8_killer 9 = .ok (.i2l, 1) := by decide +kernel
theorem dX8_killer_10 : decode cX8_killer 10 = .ok (.invokestatic 123, 3) := by decide +kernel
theorem dX8_killer_13 : decode cX8_killer 13 = .ok (.ifCond .eq 35, 3) := by decide +kernel
theorem dX8_killer_16 : decode cX8_killer 16 = .ok (.iload_n 2, 1) := by decide +kernel
theorem dX8_killer_17 : decode cX8_killer 17 = .ok (.i2l, 1) := by decide +kernel
theorem dX8_killer_18 : decode cX8_killer 18 = .ok (.lconst 0, 1) := by decide +kernel
theorem dX8_killer_19 : decode cX8_killer 19 = .ok (.aload_n 0, 1) := by decide +kernel
theorem dX8_killer_20 : decode cX8_killer 20 = .ok (.getfield 84, 3) := by decide +kernel
theorem dX8_killer_23 : decode cX8_killer 23 = .ok (.iload_n 1, 1) := by decide +kernel
theorem dX8_killer_24 : decode cX8_killer 24 = .ok (.iaload, 1) := by decide +kernel
theorem dX8_killer_25 : decode cX8_killer 25 = .ok (.iconst 1, 1) := by decide +kernel
theorem dX8_killer_26 : decode cX8_killer 26 = .ok (.isub, 1) := by decide +kernel
theorem dX8_killer_27 : decode cX8_killer 27 = .ok (.i2l, 1) := by decide +kernel
theorem dX8_killer_28 : decode cX8_killer 28 = .ok (.invokestatic 123, 3) := by decide +kernel
theorem dX8_killer_31 : decode cX8_killer 31 = .ok (.ifCond .eq 17, 3) := by decide +kernel
theorem dX8_killer_34 : decode cX8_killer 34 = .ok (.aload_n 0, 1) := by decide +kernel
theorem dX8_killer_35 : decode cX8_killer 35 = .ok (.getfield 87, 3) := by decide +kernel
theorem dX8_killer_38 : decode cX8_killer 38 = .ok (.bipush 48, 2) := by decide +kernel
theorem dX8_killer_40 : decode cX8_killer 40 = .ok (.iload_n 1, 1) := by decide +kernel
theorem dX8_killer_41 : decode cX8_killer 41 = .ok (.imul, 1) := by decide +kernel
theorem dX8_killer_42 : decode cX8_killer 42 = .ok (.iload_n 2, 1) := by decide +kernel
theorem dX8_killer_43 : decode cX8_killer 43 = .ok (.iadd, 1) := by decide +kernel
theorem dX8_killer_44 : decode cX8_killer 44 = .ok (.iaload, 1) := by decide +kernel
theorem dX8_killer_45 : decode cX8_killer 45 = .ok (.goto 5, 3) := by decide +kernel
theorem dX8_killer_48 : decode cX8_killer 48 = .ok (.bipush (-2), 2) := by decide +kernel
theorem dX8_killer_50 : decode cX8_killer 50 = .ok (.ireturn, 1) := by decide +kernel
theorem dX8_put_0 : decode cX8_put 0 = .ok (.aload_n 0, 1) := by decide +kernel
theorem dX8_put_1 : decode cX8_put 1 = .ok (.getfield 38, 3) := by decide +kernel
theorem dX8_put_4 : decode cX8_put 4 = .ok (.iload_n 1, 1) := by decide +kernel
theorem dX8_put_5 : decode cX8_put 5 = .ok (.aload_n 0, 1) := by decide +kernel
theorem dX8_put_6 : decode cX8_put 6 = .ok (.getfield 38, 3) := by decide +kernel
theorem dX8_put_9 : decode cX8_put 9 = .ok (.iload_n 2, 1) := by decide +kernel
theorem dX8_put_10 : decode cX8_put 10 = .ok (.iaload, 1) := by decide +kernel
theorem dX8_put_11 : decode cX8_put 11 = .ok (.iastore, 1) := by decide +kernel
theorem dX8_put_12 : decode cX8_put 12 = .ok (.aload_n 0, 1) := by decide +kernel
theorem dX8_put_13 : decode cX8_put 13 = .ok (.getfield 41, 3) := by decide +kernel
theorem dX8_put_16 : decode cX8_put 16 = .ok (.iload_n 1, 1) := by decide +kernel
theorem dX8_put_17 : decode cX8_put 17 = .ok (.aload_n 0, 1) := by decide +kernel
theorem dX8_put_18 : decode cX8_put 18 = .ok (.getfield 41, 3) := by decide +kernel
theorem dX8_put_21 : decode cX8_put 21 = .ok (.iload_n 2, 1) := by decide +kernel
theorem dX8_put_22 : decode cX8_put 22 = .ok (.iaload, 1) := by decide +kernel
theorem dX8_put_23 : decode cX8_put 23 = .ok (.iastore, 1) := by decide +kernel
theorem dX8_put_24 : decode cX8_put 24 = .ok (.aload_n 0, 1) := by decide +kernel
theorem dX8_put_25 : decode cX8_put 25 = .ok (.getfield 44, 3) := by decide +kernel
theorem dX8_put_28 : decode cX8_put 28 = .ok (.iload_n 1, 1) := by decide +kernel
theorem dX8_put_29 : decode cX8_put 29 = .ok (.aload_n 0, 1) := by decide +kernel
theorem dX8_put_30 : decode cX8_put 30 = .ok (.getfield 44, 3) := by decide +kernel
theorem dX8_put_33 : decode cX8_put 33 = .ok (.iload_n 2, 1) := by decide +kernel
theorem dX8_put_34 : decode cX8_put 34 = .ok (.iaload, 1) := by decide +kernel
theorem dX8_put_35 : decode cX8_put 35 = .ok (.iastore, 1) := by decide +kernel
theorem dX8_put_36 : decode cX8_put 36 = .ok (.aload_n 0, 1) := by decide +kernel
theorem dX8_put_37 : decode cX8_put 37 = .ok (.getfield 47, 3) := by decide +kernel
theorem dX8_put_40 : decode cX8_put 40 = .ok (.iload_n 1, 1) := by decide +kernel
theorem dX8_put_41 : decode cX8_put 41 = .ok (.aload_n 0, 1) := by decide +kernel
theorem dX8_put_42 : decode cX8_put 42 = .ok (.getfield 47, 3) := by decide +kernel
theorem dX8_put_45 : decode cX8_put 45 = .ok (.iload_n 2, 1) := by decide +kernel
theorem dX8_put_46 : decode cX8_put 46 = .ok (.iaload, 1) := by decide +kernel
theorem dX8_put_47 : decode cX8_put 47 = .ok (.iastore, 1) := by decide +kernel
theorem dX8_put_48 : decode cX8_put 48 = .ok (.return_, 1) := by decide +kernel
theorem dX8_remove_0 : decode cX8_remove 0 = .ok (.bipush 16, 2) := by decide +kernel
theorem dX8_remove_2 : decode cX8_remove 2 = .ok (.iload_n 1, 1) := by decide +kernel
theorem dX8_remove_3 : decode cX8_remove 3 = .ok (.imul, 1) := by decide +kernel
theorem dX8_remove_4 : decode cX8_remove 4 = .ok (.iload_n 2, 1) := by decide +kernel
theorem dX8_remove_5 : decode cX8_remove 5 = .ok (.iadd, 1) := by decide +kernel
theorem dX8_remove_6 : decode cX8_remove 6 = .ok (.istore_n 3, 1) := by decide +kernel
theorem dX8_remove_7 : decode cX8_remove 7 = .ok (.aload_n 0, 1) := by decide +kernel
theorem dX8_remove_8 : decode cX8_remove 8 = .ok (.getfield 90, 3) := by decide +kernel
theorem dX8_remove_11 : decode cX8_remove 11 = .ok (.iconst 0, 1) := by decide +kernel
theorem dX8_remove_12 : decode cX8_remove 12 = .ok (.aload_n 0, 1) := by decide +kernel
theorem dX8_remove_13 : decode cX8_remove 13 = .ok (.getfield 38, 3) := by decide +kernel
theorem dX8_remove_16 : decode cX8_remove 16 = .ok (.iload_n 3, 1) := by decide +kernel
theorem dX8_remove_17 : decode cX8_remove 17 = .ok (.iaload, 1) := by decide +kernel
theorem dX8_remove_18 : decode cX8_remove 18 = .ok (.iastore, 1) := by decide +kernel
theorem dX8_remove_19 : decode cX8_remove 19 = .ok (.aload_n 0, 1) := by decide +kernel
theorem dX8_remove_20 : decode cX8_remove 20 = .ok (.getfield 90, 3) := by decide +kernel
theorem dX8_remove_23 : decode cX8_remove 23 = .ok (.iconst 1, 1) := by decide +kernel
theorem dX8_remove_24 : decode cX8_remove 24 = .ok (.aload_n 0, 1) := by decide +kernel
theorem dX8_remove_25 : decode cX8_remove 25 = .ok (.getfield 41, 3) := by decide +kernel
theorem dX8_remove_28 : decode cX8_remove 28 = .ok (.iload_n 3, 1) := by decide +kernel
theorem dX8_remove_29 : decode cX8_remove 29 = .ok (.iaload, 1) := by decide +kernel
theorem dX8_remove_30 : decode cX8_remove 30 = .ok (.iastore, 1) := by decide +kernel
theorem dX8_remove_31 : decode cX8_remove 31 = .ok (.aload_n 0, 1) := by decide +kernel
theorem dX8_remove_32 : decode cX8_remove 32 = .ok (.getfield 90, 3) := by decide +kernel
theorem dX8_remove_35 : decode cX8_remove 35 = .ok (.iconst 2, 1) := by decide +kernel
theorem dX8_remove_36 : decode cX8_remove 36 = .ok (.aload_n 0, 1) := by decide +kernel
theorem dX8_remove_37 : decode cX8_remove 37 = .ok (.getfield 44, 3) := by decide +kernel
theorem dX8_remove_40 : decode cX8_remove 40 = .ok (.iload_n 3, 1) := by decide +kernel
theorem dX8_remove_41 : decode cX8_remove 41 = .ok (.iaload, 1) := by decide +kernel
theorem dX8_remove_42 : decode cX8_remove 42 = .ok (.iastore, 1) := by decide +kernel
theorem dX8_remove_43 : decode cX8_remove 43 = .ok (.aload_n 0, 1) := by decide +kernel
theorem dX8_remove_44 : decode cX8_remove 44 = .ok (.getfield 90, 3) := by decide +kernel
theorem dX8_remove_47 : decode cX8_remove 47 = .ok (.iconst 3, 1) := by decide +kernel
theorem dX8_remove_48 : decode cX8_remove 48 = .ok (.aload_n 0, 1) := by decide +kernel
theorem dX8_remove_49 : decode cX8_remove 49 = .ok (.getfield 47, 3) := by decide +kernel
theorem dX8_remove_52 : decode cX8_remove 52 = .ok (.iload_n 3, 1) := by decide +kernel
theorem dX8_remove_53 : decode cX8_remove 53 = .ok (.iaload, 1) := by decide +kernel
theorem dX8_remove_54 : decode cX8_remove 54 = .ok (.iastore, 1) := by decide +kernel
theorem dX8_remove_55 : decode cX8_remove 55 = .ok (.iload_n 2, 1) := by decide +kernel
theorem dX8_remove_56 : decode cX8_remove 56 = .ok (.istore 4, 2) := by decide +kernel
theorem dX8_remove_58 : decode cX8_remove 58 = .ok (.iload 4, 2) := by decide +kernel
theorem dX8_remove_60 : decode cX8_remove 60 = .ok (.iconst 1, 1) := by decide +kernel
theorem dX8_remove_61 : decode cX8_remove 61 = .ok (.iadd, 1) := by decide +kernel
theorem dX8_remove_62 : decode cX8_remove 62 = .ok (.aload_n 0, 1) := by decide +kernel
theorem dX8_remove_63 : decode cX8_remove 63 = .ok (.getfield 35, 3) := by decide +kernel
theorem dX8_remove_66 : decode cX8_remove 66 = .ok (.iload_n 1, 1) := by decide +kernel
theorem dX8_remove_67 : decode cX8_remove 67 = .ok (.iaload, 1) := by decide +kernel
theorem dX8_remove_68 : decode cX8_remove 68 = .ok (.if_icmp .ge 29, 3) := by decide +kernel
theorem dX8_remove_71 : decode cX8_remove 71 = .ok (.aload_n 0, 1) := by decide +kernel
theorem dX8_remove_72 : decode cX8_remove 72 = .ok (.bipush 16, 2) := by decide +kernel
theorem dX8_remove_74 : decode cX8_remove 74 = .ok (.iload_n 1, 1) := by decide +kernel
theorem dX8_remove_75 : decode cX8_remove 75 = .ok (.imul, 1) := by decide +kernel
theorem dX8_remove_76 : decode cX8_remove 76 = .ok (.iload 4, 2) := by decide +kernel
theorem dX8_remove_78 : decode cX8_remove 78 = .ok (.iadd, 1) := by decide +kernel
theorem dX8_remove_79 : decode cX8_remove 79 = .ok (.bipush 16, 2) := by decide +kernel
theorem dX8_remove_81 : decode cX8_remove 81 = .ok (.iload_n 1, 1) := by decide +kernel
theorem dX8_remove_82 : decode cX8_remove 82 = .ok (.imul, 1) := by decide +kernel
theorem dX8_remove_83 : decode cX8_remove 83 = .ok (.iload 4, 2) := by decide +kernel
theorem dX8_remove_85 : decode cX8_remove 85 = .ok (.iadd, 1) := by decide +kernel
theorem dX8_remove_86 : decode cX8_remove 86 = .ok (.iconst 1, 1) := by decide +kernel
theorem dX8_remove_87 : decode cX8_remove 87 = .ok (.iadd, 1) := by decide +kernel
theorem dX8_remove_88 : decode cX8_remove 88 = .ok (.invokevirtual 281, 3) := by decide +kernel
theorem dX8_remove_91 : decode cX8_remove 91 = .ok (.iinc 4 1, 3) := by decide +kernel
theorem dX8_remove_94 : decode cX8_remove 94 = .ok (.goto (-36), 3) := by decide +kernel
theorem dX8_remove_97 : decode cX8_remove 97 = .ok (.aload_n 0, 1) := by decide +kernel
theorem dX8_remove_98 : decode cX8_remove 98 = .ok (.getfield 35, 3) := by decide +kernel
theorem dX8_remove_101 : decode cX8_remove 101 = .ok (.iload_n 1, 1) := by decide +kernel
theorem dX8_remove_102 : decode cX8_remove 102 = .ok (.dup2, 1) := by decide +kernel
theorem dX8_remove_103 : decode cX8_remove 103 = .ok (.iaload, 1) := by decide +kernel
theorem dX8_remove_104 : decode cX8_remove 104 = .ok (.iconst 1, 1) := by decide +kernel
theorem dX8_remove_105 : decode cX8_remove 105 = .ok (.isub, 1) := by decide +kernel
theorem dX8_remove_106 : decode cX8_remove 106 = .ok (.iastore, 1) := by decide +kernel
theorem dX8_remove_107 : decode cX8_remove 107 = .ok (.return_, 1) := by decide +kernel
theorem dX8_giveBack_0 : decode cX8_giveBack 0 = .ok (.aload_n 0, 1) := by decide +kernel
theorem dX8_giveBack_1 : decode cX8_giveBack 1 = .ok (.getfield 35, 3) := by decide +kernel
theorem dX8_giveBack_4 : decode cX8_giveBack 4 = .ok (.iload_n 1, 1) := by decide +kernel
theorem dX8_giveBack_5 : decode cX8_giveBack 5 = .ok (.iaload, 1) := by decide +kernel
theorem dX8_giveBack_6 : decode cX8_giveBack 6 = .ok (.istore_n 3, 1) := by decide +kernel
theorem dX8_giveBack_7 : decode cX8_giveBack 7 = .ok (.iload_n 3, 1) := by decide +kernel
theorem dX8_giveBack_8 : decode cX8_giveBack 8 = .ok (.iload_n 2, 1) := by decide +kernel
theorem dX8_giveBack_9 : decode cX8_giveBack 9 = .ok (.if_icmp .le 27, 3) := by decide +kernel
theorem dX8_giveBack_12 : decode cX8_giveBack 12 = .ok (.aload_n 0, 1) := by decide +kernel
theorem dX8_giveBack_13 : decode cX8_giveBack 13 = .ok (.bipush 16, 2) := by decide +kernel
theorem dX8_giveBack_15 : decode cX8_giveBack 15 = .ok (.iload_n 1, 1) := by decide +kernel
theorem dX8_giveBack_16 : decode cX8_giveBack 16 = .ok (.imul, 1) := by decide +kernel
theorem dX8_giveBack_17 : decode cX8_giveBack 17 = .ok (.iload_n 3, 1) := by decide +kernel
theorem dX8_giveBack_18 : decode cX8_giveBack 18 = .ok (.iadd, 1) := by decide +kernel
theorem dX8_giveBack_19 : decode cX8_giveBack 19 = .ok (.bipush 16, 2) := by decide +kernel
theorem dX8_giveBack_21 : decode cX8_giveBack 21 = .ok (.iload_n 1, 1) := by decide +kernel
theorem dX8_giveBack_22 : decode cX8_giveBack 22 = .ok (.imul, 1) := by decide +kernel
theorem dX8_giveBack_23 : decode cX8_giveBack 23 = .ok (.iload_n 3, 1) := by decide +kernel
theorem dX8_giveBack_24 : decode cX8_giveBack 24 = .ok (.iadd, 1) := by decide +kernel
theorem dX8_giveBack_25 : decode cX8_giveBack 25 = .ok (.iconst 1, 1) := by decide +kernel
theorem dX8_giveBack_26 : decode cX8_giveBack 26 = .ok (.isub, 1) := by decide +kernel
theorem dX8_giveBack_27 : decode cX8_giveBack 27 = .ok (.invokevirtual 281, 3) := by decide +kernel
theorem dX8_giveBack_30 : decode cX8_giveBack 30 = .ok (.iinc 3 (-1), 3) := by decide +kernel
theorem dX8_giveBack_33 : decode cX8_giveBack 33 = .ok (.goto (-26), 3) := by decide +kernel
theorem dX8_giveBack_36 : decode cX8_giveBack 36 = .ok (.aload_n 0, 1) := by decide +kernel
theorem dX8_giveBack_37 : decode cX8_giveBack 37 = .ok (.getfield 35, 3) := by decide +kernel
theorem dX8_giveBack_40 : decode cX8_giveBack 40 = .ok (.iload_n 1, 1) := by decide +kernel
theorem dX8_giveBack_41 : decode cX8_giveBack 41 = .ok (.dup2, 1) := by decide +kernel
theorem dX8_giveBack_42 : decode cX8_giveBack 42 = .ok (.iaload, 1) := by decide +kernel
theorem dX8_giveBack_43 : decode cX8_giveBack 43 = .ok (.iconst 1, 1) := by decide +kernel
theorem dX8_giveBack_44 : decode cX8_giveBack 44 = .ok (.iadd, 1) := by decide +kernel
theorem dX8_giveBack_45 : decode cX8_giveBack 45 = .ok (.iastore, 1) := by decide +kernel
theorem dX8_giveBack_46 : decode cX8_giveBack 46 = .ok (.bipush 16, 2) := by decide +kernel
theorem dX8_giveBack_48 : decode cX8_giveBack 48 = .ok (.iload_n 1, 1) := by decide +kernel
theorem dX8_giveBack_49 : decode cX8_giveBack 49 = .ok (.imul, 1) := by decide +kernel
theorem dX8_giveBack_50 : decode cX8_giveBack 50 = .ok (.iload_n 2, 1) := by decide +kernel
theorem dX8_giveBack_51 : decode cX8_giveBack 51 = .ok (.iadd, 1) := by decide +kernel
theorem dX8_giveBack_52 : decode cX8_giveBack 52 = .ok (.istore_n 3, 1) := by decide +kernel
theorem dX8_giveBack_53 : decode cX8_giveBack 53 = .ok (.aload_n 0, 1) := by decide +kernel
theorem dX8_giveBack_54 : decode cX8_giveBack 54 = .ok (.getfield 38, 3) := by decide +kernel
theorem dX8_giveBack_57 : decode cX8_giveBack 57 = .ok (.iload_n 3, 1) := by decide +kernel
theorem dX8_giveBack_58 : decode cX8_giveBack 58 = .ok (.aload_n 0, 1) := by decide +kernel
theorem dX8_giveBack_59 : decode cX8_giveBack 59 = .ok (.getfield 90, 3) := by decide +kernel
theorem dX8_giveBack_62 : decode cX8_giveBack 62 = .ok (.iconst 0, 1) := by decide +kernel
theorem dX8_giveBack_63 : decode cX8_giveBack 63 = .ok (.iaload, 1) := by decide +kernel
theorem dX8_giveBack_64 : decode cX8_giveBack 64 = .ok (.iastore, 1) := by decide +kernel
theorem dX8_giveBack_65 : decode cX8_giveBack 65 = .ok (.aload_n 0, 1) := by decide +kernel
theorem dX8_giveBack_66 : decode cX8_giveBack 66 = .ok (.getfield 41, 3) := by decide +kernel
theorem dX8_giveBack_69 : decode cX8_giveBack 69 = .ok (.iload_n 3, 1) := by decide +kernel
theorem dX8_giveBack_70 : decode cX8_giveBack 70 = .ok (.aload_n 0, 1) := by decide +kernel
theorem dX8_giveBack_71 : decode cX8_giveBack 71 = .ok (.getfield 90, 3) := by decide +kernel
theorem dX8_giveBack_74 : decode cX8_giveBack 74 = .ok (.iconst 1, 1) := by decide +kernel
theorem dX8_giveBack_75 : decode cX8_giveBack 75 = .ok (.iaload, 1) := by decide +kernel
theorem dX8_giveBack_76 : decode cX8_giveBack 76 = .ok (.iastore, 1) := by decide +kernel
theorem dX8_giveBack_77 : decode cX8_giveBack 77 = .ok (.aload_n 0, 1) := by decide +kernel
theorem dX8_giveBack_78 : decode cX8_giveBack 78 = .ok (.getfield 44, 3) := by decide +kernel
theorem dX8_giveBack_81 : decode cX8_giveBack 81 = .ok (.iload_n 3, 1) := by decide +kernel
theorem dX8_giveBack_82 : decode cX8_giveBack 82 = .ok (.aload_n 0, 1) := by decide +kernel
theorem dX8_giveBack_83 : decode cX8_giveBack 83 = .ok (.getfield 90, 3) := by decide +kernel
theorem dX8_giveBack_86 : decode cX8_giveBack 86 = .ok (.iconst 2, 1) := by decide +kernel
theorem dX8_giveBack_87 : decode cX8_giveBack 87 = .ok (.iaload, 1) := by decide +kernel
theorem dX8_giveBack_88 : decode cX8_giveBack 88 = .ok (.iastore, 1) := by decide +kernel
theorem dX8_giveBack_89 : decode cX8_giveBack 89 = .ok (.aload_n 0, 1) := by decide +kernel
theorem dX8_giveBack_90 : decode cX8_giveBack 90 = .ok (.getfield 47, 3) := by decide +kernel
theorem dX8_giveBack_93 : decode cX8_giveBack 93 = .ok (.iload_n 3, 1) := by decide +kernel
theorem dX8_giveBack_94 : decode cX8_giveBack 94 = .ok (.aload_n 0, 1) := by decide +kernel
theorem dX8_giveBack_95 : decode cX8_giveBack 95 = .ok (.getfield 90, 3) := by decide +kernel
theorem dX8_giveBack_98 : decode cX8_giveBack 98 = .ok (.iconst 3, 1) := by decide +kernel
theorem dX8_giveBack_99 : decode cX8_giveBack 99 = .ok (.iaload, 1) := by decide +kernel
theorem dX8_giveBack_100 : decode cX8_giveBack 100 = .ok (.iastore, 1) := by decide +kernel
theorem dX8_giveBack_101 : decode cX8_giveBack 101 = .ok (.return_, 1) := by decide +kernel
theorem dX8_shrink_0 : decode cX8_shrink 0 = .ok (.iload_n 1, 1) := by decide +kernel
theorem dX8_shrink_1 : decode cX8_shrink 1 = .ok (.i2l, 1) := by decide +kernel
theorem dX8_shrink_2 : decode cX8_shrink 2 = .ok (.lconst 0, 1) := by decide +kernel
theorem dX8_shrink_3 : decode cX8_shrink 3 = .ok (.ldc2_w 237, 3) := by decide +kernel
theorem dX8_shrink_6 : decode cX8_shrink 6 = .ok (.invokestatic 123, 3) := by decide +kernel
theorem dX8_shrink_9 : decode cX8_shrink 9 = .ok (.ifCond .ne 6, 3) := by decide +kernel
theorem dX8_shrink_12 : decode cX8_shrink 12 = .ok (.bipush (-2), 2) := by decide +kernel
theorem dX8_shrink_14 : decode cX8_shrink 14 = .ok (.ireturn, 1) := by decide +kernel
theorem dX8_shrink_15 : decode cX8_shrink 15 = .ok (.aload_n 0, 1) := by decide +kernel
theorem dX8_shrink_16 : decode cX8_shrink 16 = .ok (.iload_n 1, 1) := by decide +kernel
theorem dX8_shrink_17 : decode cX8_shrink 17 = .ok (.invokevirtual 268, 3) := by decide +kernel
theorem dX8_shrink_20 : decode cX8_shrink 20 = .ok (.istore_n 2, 1) := by decide +kernel
theorem dX8_shrink_21 : decode cX8_shrink 21 = .ok (.iload_n 2, 1) := by decide +kernel
theorem dX8_shrink_22 : decode cX8_shrink 22 = .ok (.ifCond .ge 5, 3) := by decide +kernel
theorem dX8_shrink_25 : decode cX8_shrink 25 = .ok (.iconst (-1), 1) := by decide +kernel
theorem dX8_shrink_26 : decode cX8_shrink 26 = .ok (.ireturn, 1) := by decide +kernel
theorem dX8_shrink_27 : decode cX8_shrink 27 = .ok (.iconst 1, 1) := by decide +kernel
theorem dX8_shrink_28 : decode cX8_shrink 28 = .ok (.istore_n 3, 1) := by decide +kernel
theorem dX8_shrink_29 : decode cX8_shrink 29 = .ok (.iload_n 3, 1) := by decide +kernel
theorem dX8_shrink_30 : decode cX8_shrink 30 = .ok (.ifCond .eq 86, 3) := by decide +kernel
theorem dX8_shrink_33 : decode cX8_shrink 33 = .ok (.iconst 0, 1) := by decide +kernel
theorem dX8_shrink_34 : decode cX8_shrink 34 = .ok (.istore_n 3, 1) := by decide +kernel
theorem dX8_shrink_35 : decode cX8_shrink 35 = .ok (.iconst 0, 1) := by decide +kernel
theorem dX8_shrink_36 : decode cX8_shrink 36 = .ok (.istore 4, 2) := by decide +kernel
theorem dX8_shrink_38 : decode cX8_shrink 38 = .ok (.iload 4, 2) := by decide +kernel
theorem dX8_shrink_40 : decode cX8_shrink 40 = .ok (.aload_n 0, 1) := by decide +kernel
theorem dX8_shrink_41 : decode cX8_shrink 41 = .ok (.getfield 35, 3) := by decide +kernel
theorem dX8_shrink_44 : decode cX8_shrink 44 = .ok (.iload_n 1, 1) := by decide +kernel
theorem dX8_shrink_45 : decode cX8_shrink 45 = .ok (.iaload, 1) := by decide +kernel
theorem dX8_shrink_46 : decode cX8_shrink 46 = .ok (.if_icmp .ge 67, 3) := by decide +kernel
theorem dX8_shrink_49 : decode cX8_shrink 49 = .ok (.aload_n 0, 1) := by decide +kernel
theorem dX8_shrink_50 : decode cX8_shrink 50 = .ok (.iload_n 1, 1) := by decide +kernel
theorem dX8_shrink_51 : decode cX8_shrink 51 = .ok (.iload 4, 2) := by decide +kernel
theorem dX8_shrink_53 : decode cX8_shrink 53 = .ok (.invokevirtual 284, 3) := by decide +kernel
theorem dX8_shrink_56 : decode cX8_shrink 56 = .ok (.iload 4, 2) := by decide +kernel
theorem dX8_shrink_58 : decode cX8_shrink 58 = .ok (.iload_n 2, 1) := by decide +kernel
theorem dX8_shrink_59 : decode cX8_shrink 59 = .ok (.if_icmp .ge 9, 3) := by decide +kernel
theorem dX8_shrink_62 : decode cX8_shrink 62 = .ok (.iload_n 2, 1) := by decide +kernel
theorem dX8_shrink_63 : decode cX8_shrink 63 = .ok (.iconst 1, 1) := by decide +kernel
theorem dX8_shrink_64 : decode cX8_shrink 64 = .ok (.isub, 1) := by decide +kernel
theorem dX8_shrink_65 : decode cX8_shrink 65 = .ok (.goto 15, 3) := by decide +kernel
theorem dX8_shrink_68 : decode cX8_shrink 68 = .ok (.iload 4, 2) := by decide +kernel
theorem dX8_shrink_70 : decode cX8_shrink 70 = .ok (.iload_n 2, 1) := by decide +kernel
theorem dX8_shrink_71 : decode cX8_shrink 71 = .ok (.if_icmp .ne 8, 3) := by decide +kernel
theorem dX8_shrink_74 : decode cX8_shrink 74 = .ok (.bipush 16, 2) := by decide +kernel
theorem dX8_shrink_76 : decode cX8_shrink 76 = .ok (.goto 4, 3) := by decide +kernel
theorem dX8_shrink_79 : decode cX8_shrink 79 = .ok (.iload_n 2, 1) := by decide +kernel
theorem dX8_shrink_80 : decode cX8_shrink 80 = .ok (.istore 5, 2) := by decide +kernel
theorem dX8_shrink_82 : decode cX8_shrink 82 = .ok (.aload_n 0, 1) := by decide +kernel
theorem dX8_shrink_83 : decode cX8_shrink 83 = .ok (.iload_n 1, 1) := by decide +kernel
theorem dX8_shrink_84 : decode cX8_shrink 84 = .ok (.invokevirtual 268, 3) := by decide +kernel
theorem dX8_shrink_87 : decode cX8_shrink 87 = .ok (.iload 5, 2) := by decide +kernel
theorem dX8_shrink_89 : decode cX8_shrink 89 = .ok (.if_icmp .ne 11, 3) := by decide +kernel
theorem dX8_shrink_92 : decode cX8_shrink 92 = .ok (.iload 5, 2) := by decide +kernel
theorem dX8_shrink_94 : decode cX8_shrink 94 = .ok (.istore_n 2, 1) := by decide +kernel
theorem dX8_shrink_95 : decode cX8_shrink 95 = .ok (.iconst 1, 1) := by decide +kernel
theorem dX8_shrink_96 : decode cX8_shrink 96 = .ok (.istore_n 3, 1) := by decide +kernel
theorem dX8_shrink_97 : decode cX8_shrink 97 = .ok (.goto 13, 3) := by decide +kernel
theorem dX8_shrink_100 : decode cX8_shrink 100 = .ok (.aload_n 0, 1) := by decide +kernel
theorem dX8_shrink_101 : decode cX8_shrink 101 = .ok (.iload_n 1, 1) := by decide +kernel
theorem dX8_shrink_102 : decode cX8_shrink 102 = .ok (.iload 4, 2) := by decide +kernel
theorem dX8_shrink_104 : decode cX8_shrink 104 = .ok (.invokevirtual 287, 3) := by decide +kernel
theorem dX8_shrink_107 : decode cX8_shrink 107 = .ok (.iinc 4 1, 3) := by decide +kernel
theorem dX8_shrink_110 : decode cX8_shrink 110 = .ok (.goto (-72), 3) := by decide +kernel
theorem dX8_shrink_113 : decode cX8_shrink 113 = .ok (.goto (-84), 3) := by decide +kernel
theorem dX8_shrink_116 : decode cX8_shrink 116 = .ok (.aload_n 0, 1) := by decide +kernel
theorem dX8_shrink_117 : decode cX8_shrink 117 = .ok (.getfield 35, 3) := by decide +kernel
theorem dX8_shrink_120 : decode cX8_shrink 120 = .ok (.iload_n 1, 1) := by decide +kernel
theorem dX8_shrink_121 : decode cX8_shrink 121 = .ok (.iaload, 1) := by decide +kernel
theorem dX8_shrink_122 : decode cX8_shrink 122 = .ok (.ireturn, 1) := by decide +kernel
theorem dX8_lineOf_0 : decode cX8_lineOf 0 = .ok (.iload_n 1, 1) := by decide +kernel
theorem dX8_lineOf_1 : decode cX8_lineOf 1 = .ok (.i2l, 1) := by decide +kernel
theorem dX8_lineOf_2 : decode cX8_lineOf 2 = .ok (.lconst 0, 1) := by decide +kernel
theorem dX8_lineOf_3 : decode cX8_lineOf 3 = .ok (.ldc2_w 237, 3) := by decide +kernel
theorem dX8_lineOf_6 : decode cX8_lineOf 6 = .ok (.invokestatic 123, 3) := by decide +kernel
theorem dX8_lineOf_9 : decode cX8_lineOf 9 = .ok (.ifCond .eq 33, 3) := by decide +kernel
theorem dX8_lineOf_12 : decode cX8_lineOf 12 = .ok (.iload_n 2, 1) := by decide +kernel
theorem dX8_lineOf_13 : decode cX8_lineOf 13 = .ok (.i2l, 1) := by decide +kernel
theorem dX8_lineOf_14 : decode cX8_lineOf 14 = .ok (.lconst 0, 1) := by decide +kernel
theorem dX8_lineOf_15 : decode cX8_lineOf 15 = .ok (.aload_n 0, 1) := by decide +kernel
theorem dX8_lineOf_16 : decode cX8_lineOf 16 = .ok (.getfield 35, 3) := by decide +kernel
theorem dX8_lineOf_19 : decode cX8_lineOf 19 = .ok (.iload_n 1, 1) := by decide +kernel
theorem dX8_lineOf_20 : decode cX8_lineOf 20 = .ok (.iaload, 1) := by decide +kernel
theorem dX8_lineOf_21 : decode cX8_lineOf 21 = .ok (.iconst 1, 1) := by decide +kernel
theorem dX8_lineOf_22 : decode cX8_lineOf 22 = .ok (.isub, 1) := by decide +kernel
theorem dX8_lineOf_23 : decode cX8_lineOf 23 = .ok (.i2l, 1) := by decide +kernel
theorem dX8_lineOf_24 : decode cX8_lineOf 24 = .ok (.invokestatic 123, 3) := by decide +kernel
theorem dX8_lineOf_27 : decode cX8_lineOf 27 = .ok (.ifCond .eq 15, 3) := by decide +kernel
theorem dX8_lineOf_30 : decode cX8_lineOf 30 = .ok (.iload_n 3, 1) := by decide +kernel
theorem dX8_lineOf_31 : decode cX8_lineOf 31 = .ok (.i2l, 1) := by decide +kernel
theorem dX8_lineOf_32 : decode cX8_lineOf 32 = .ok (.lconst 0, 1) := by decide +kernel
theorem dX8_lineOf_33 : decode cX8_lineOf 33 = .ok (.ldc2_w 139, 3) := by decide +kernel
theorem dX8_lineOf_36 : decode cX8_lineOf 36 = .ok (.invokestatic 123, 3) := by decide +kernel
theorem dX8_lineOf_39 : decode cX8_lineOf 39 = .ok (.ifCond .ne 5, 3) := by decide +kernel
theorem dX8_lineOf_42 : decode cX8_lineOf 42 = .ok (.iconst 0, 1) := by decide +kernel
theorem dX8_lineOf_43 : decode cX8_lineOf 43 = .ok (.ireturn, 1) := by decide +kernel
theorem dX8_lineOf_44 : decode cX8_lineOf 44 = .ok (.bipush 16, 2) := by decide +kernel
theorem dX8_lineOf_46 : decode cX8_lineOf 46 = .ok (.iload_n 1, 1) := by decide +kernel
theorem dX8_lineOf_47 : decode cX8_lineOf 47 = .ok (.imul, 1) := by decide +kernel
theorem dX8_lineOf_48 : decode cX8_lineOf 48 = .ok (.iload_n 2, 1) := by decide +kernel
theorem dX8_lineOf_49 : decode cX8_lineOf 49 = .ok (.iadd, 1) := by decide +kernel
theorem dX8_lineOf_50 : decode cX8_lineOf 50 = .ok (.istore 4, 2) := by decide +kernel
theorem dX8_lineOf_52 : decode cX8_lineOf 52 = .ok (.iload_n 3, 1) := by decide +kernel
theorem dX8_lineOf_53 : decode cX8_lineOf 53 = .ok (.ifCond .ne 13, 3) := by decide +kernel
theorem dX8_lineOf_56 : decode cX8_lineOf 56 = .ok (.aload_n 0, 1) := by decide +kernel
theorem dX8_lineOf_57 : decode cX8_lineOf 57 = .ok (.getfield 38, 3) := by decide +kernel
theorem dX8_lineOf_60 : decode cX8_lineOf 60 = .ok (.iload 4, 2) := by decide +kernel
theorem dX8_lineOf_62 : decode cX8_lineOf 62 = .ok (.iaload, 1) := by decide +kernel
theorem dX8_lineOf_63 : decode cX8_lineOf 63 = .ok (.goto 40, 3) := by decide +kernel
theorem dX8_lineOf_66 : decode cX8_lineOf 66 = .ok (.iload_n 3, 1) := by decide +kernel
theorem dX8_lineOf_67 : decode cX8_lineOf 67 = .ok (.iconst 1, 1) := by decide +kernel
theorem dX8_lineOf_68 : decode cX8_lineOf 68 = .ok (.if_icmp .ne 13, 3) := by decide +kernel
theorem dX8_lineOf_71 : decode cX8_lineOf 71 = .ok (.aload_n 0, 1) := by decide +kernel
theorem dX8_lineOf_72 : decode cX8_lineOf 72 = .ok (.getfield 41, 3) := by decide +kernel
theorem dX8_lineOf_75 : decode cX8_lineOf 75 = .ok (.iload 4, 2) := by decide +kernel
theorem dX8_lineOf_77 : decode cX8_lineOf 77 = .ok (.iaload, 1) := by decide +kernel
theorem dX8_lineOf_78 : decode cX8_lineOf 78 = .ok (.goto 25, 3) := by decide +kernel
theorem dX8_lineOf_81 : decode cX8_lineOf 81 = .ok (.iload_n 3, 1) := by decide +kernel
theorem dX8_lineOf_82 : decode cX8_lineOf 82 = .ok (.iconst 2, 1) := by decide +kernel
theorem dX8_lineOf_83 : decode cX8_lineOf 83 = .ok (.if_icmp .ne 13, 3) := by decide +kernel
theorem dX8_lineOf_86 : decode cX8_lineOf 86 = .ok (.aload_n 0, 1) := by decide +kernel
theorem dX8_lineOf_87 : decode cX8_lineOf 87 = .ok (.getfield 44, 3) := by decide +kernel
theorem dX8_lineOf_90 : decode cX8_lineOf 90 = .ok (.iload 4, 2) := by decide +kernel
theorem dX8_lineOf_92 : decode cX8_lineOf 92 = .ok (.iaload, 1) := by decide +kernel
theorem dX8_lineOf_93 : decode cX8_lineOf 93 = .ok (.goto 10, 3) := by decide +kernel
theorem dX8_lineOf_96 : decode cX8_lineOf 96 = .ok (.aload_n 0, 1) := by decide +kernel
theorem dX8_lineOf_97 : decode cX8_lineOf 97 = .ok (.getfield 47, 3) := by decide +kernel
theorem dX8_lineOf_100 : decode cX8_lineOf 100 = .ok (.iload 4, 2) := by decide +kernel
theorem dX8_lineOf_102 : decode cX8_lineOf 102 = .ok (.iaload, 1) := by decide +kernel
theorem dX8_lineOf_103 : decode cX8_lineOf 103 = .ok (.ireturn, 1) := by decide +kernel
theorem dX8_covered_0 : decode cX8_covered 0 = .ok (.aload_n 0, 1) := by decide +kernel
theorem dX8_covered_1 : decode cX8_covered 1 = .ok (.iload_n 1, 1) := by decide +kernel
theorem dX8_covered_2 : decode cX8_covered 2 = .ok (.iload_n 2, 1) := by decide +kernel
theorem dX8_covered_3 : decode cX8_covered 3 = .ok (.invokevirtual 145, 3) := by decide +kernel
theorem dX8_covered_6 : decode cX8_covered 6 = .ok (.ifCond .eq 16, 3) := by decide +kernel
theorem dX8_covered_9 : decode cX8_covered 9 = .ok (.aload_n 0, 1) := by decide +kernel
theorem dX8_covered_10 : decode cX8_covered 10 = .ok (.getfield 25, 3) := by decide +kernel
theorem dX8_covered_13 : decode cX8_covered 13 = .ok (.iconst 3, 1) := by decide +kernel
theorem dX8_covered_14 : decode cX8_covered 14 = .ok (.iload_n 1, 1) := by decide +kernel
theorem dX8_covered_15 : decode cX8_covered 15 = .ok (.imul, 1) := by decide +kernel
theorem dX8_covered_16 : decode cX8_covered 16 = .ok (.iload_n 2, 1) := by decide +kernel
theorem dX8_covered_17 : decode cX8_covered 17 = .ok (.iadd, 1) := by decide +kernel
theorem dX8_covered_18 : decode cX8_covered 18 = .ok (.iaload, 1) := by decide +kernel
theorem dX8_covered_19 : decode cX8_covered 19 = .ok (.goto 4, 3) := by decide +kernel
theorem dX8_covered_22 : decode cX8_covered 22 = .ok (.iconst (-1), 1) := by decide +kernel
theorem dX8_covered_23 : decode cX8_covered 23 = .ok (.ireturn, 1) := by decide +kernel
theorem dX8_coins_0 : decode cX8_coins 0 = .ok (.iload_n 1, 1) := by decide +kernel
theorem dX8_coins_1 : decode cX8_coins 1 = .ok (.invokestatic 133, 3) := by decide +kernel
theorem dX8_coins_4 : decode cX8_coins 4 = .ok (.ifCond .eq 12, 3) := by decide +kernel
theorem dX8_coins_7 : decode cX8_coins 7 = .ok (.aload_n 0, 1) := by decide +kernel
theorem dX8_coins_8 : decode cX8_coins 8 = .ok (.getfield 7, 3) := by decide +kernel
theorem dX8_coins_11 : decode cX8_coins 11 = .ok (.iload_n 1, 1) := by decide +kernel
theorem dX8_coins_12 : decode cX8_coins 12 = .ok (.iaload, 1) := by decide +kernel
theorem dX8_coins_13 : decode cX8_coins 13 = .ok (.goto 4, 3) := by decide +kernel
theorem dX8_coins_16 : decode cX8_coins 16 = .ok (.iconst (-1), 1) := by decide +kernel
theorem dX8_coins_17 : decode cX8_coins 17 = .ok (.ireturn, 1) := by decide +kernel
theorem dX8_cell_0 : decode cX8_cell 0 = .ok (.iload_n 1, 1) := by decide +kernel
theorem dX8_cell_1 : decode cX8_cell 1 = .ok (.i2l, 1) := by decide +kernel
theorem dX8_cell_2 : decode cX8_cell 2 = .ok (.lconst 0, 1) := by decide +kernel
theorem dX8_cell_3 : decode cX8_cell 3 = .ok (.aload_n 0, 1) := by decide +kernel
theorem dX8_cell_4 : decode cX8_cell 4 = .ok (.getfield 127, 3) := by decide +kernel
theorem dX8_cell_7 : decode cX8_cell 7 = .ok (.iconst 1, 1) := by decide +kernel
theorem dX8_cell_8 : decode cX8_cell 8 = .ok (.isub, 1) := by decide +kernel
theorem dX8_cell_9 : decode cX8_cell 9 = .ok (.i2l, 1) := by decide +kernel
theorem dX8_cell_10 : decode cX8_cell 10 = .ok (.invokestatic 123, 3) := by decide +kernel
theorem dX8_cell_13 : decode cX8_cell 13 = .ok (.ifCond .eq 31, 3) := by decide +kernel
theorem dX8_cell_16 : decode cX8_cell 16 = .ok (.iload_n 2, 1) := by decide +kernel
theorem dX8_cell_17 : decode cX8_cell 17 = .ok (.i2l, 1) := by decide +kernel
theorem dX8_cell_18 : decode cX8_cell 18 = .ok (.lconst 0, 1) := by decide +kernel
theorem dX8_cell_19 : decode cX8_cell 19 = .ok (.ldc2_w 139, 3) := by decide +kernel
theorem dX8_cell_22 : decode cX8_cell 22 = .ok (.invokestatic 123, 3) := by decide +kernel
theorem dX8_cell_25 : decode cX8_cell 25 = .ok (.ifCond .eq 19, 3) := by decide +kernel
theorem dX8_cell_28 : decode cX8_cell 28 = .ok (.aload_n 0, 1) := by decide +kernel
theorem dX8_cell_29 : decode cX8_cell 29 = .ok (.getfield 7, 3) := by decide +kernel
theorem dX8_cell_32 : decode cX8_cell 32 = .ok (.bipush 12, 2) := by decide +kernel
theorem dX8_cell_34 : decode cX8_cell 34 = .ok (.iconst 4, 1) := by decide +kernel
theorem dX8_cell_35 : decode cX8_cell 35 = .ok (.iload_n 1, 1) := by decide +kernel
theorem dX8_cell_36 : decode cX8_cell 36 = .ok (.imul, 1) := by decide +kernel
theorem dX8_cell_37 : decode cX8_cell 37 = .ok (.iadd, 1) := by decide +kernel
theorem dX8_cell_38 : decode cX8_cell 38 = .ok (.iload_n 2, 1) := by decide +kernel
theorem dX8_cell_39 : decode cX8_cell 39 = .ok (.iadd, 1) := by decide +kernel
theorem dX8_cell_40 : decode cX8_cell 40 = .ok (.iaload, 1) := by decide +kernel
theorem dX8_cell_41 : decode cX8_cell 41 = .ok (.goto 4, 3) := by decide +kernel
theorem dX8_cell_44 : decode cX8_cell 44 = .ok (.iconst 0, 1) := by decide +kernel
theorem dX8_cell_45 : decode cX8_cell 45 = .ok (.ireturn, 1) := by decide +kernel
theorem dX8_event_0 : decode cX8_event 0 = .ok (.iload_n 1, 1) := by decide +kernel
theorem dX8_event_1 : decode cX8_event 1 = .ok (.i2l, 1) := by decide +kernel
theorem dX8_event_2 : decode cX8_event 2 = .ok (.lconst 0, 1) := by decide +kernel
theorem dX8_event_3 : decode cX8_event 3 = .ok (.aload_n 0, 1) := by decide +kernel
theorem dX8_event_4 : decode cX8_event 4 = .ok (.getfield 7, 3) := by decide +kernel
theorem dX8_event_7 : decode cX8_event 7 = .ok (.bipush 29, 2) := by decide +kernel
theorem dX8_event_9 : decode cX8_event 9 = .ok (.iaload, 1) := by decide +kernel
theorem dX8_event_10 : decode cX8_event 10 = .ok (.iconst 1, 1) := by decide +kernel
theorem dX8_event_11 : decode cX8_event 11 = .ok (.isub, 1) := by decide +kernel
theorem dX8_event_12 : decode cX8_event 12 = .ok (.i2l, 1) := by decide +kernel
theorem dX8_event_13 : decode cX8_event 13 = .ok (.invokestatic 123, 3) := by decide +kernel
theorem dX8_event_16 : decode cX8_event 16 = .ok (.ifCond .eq 15, 3) := by decide +kernel
theorem dX8_event_19 : decode cX8_event 19 = .ok (.aload_n 0, 1) := by decide +kernel
theorem dX8_event_20 : decode cX8_event 20 = .ok (.getfield 7, 3) := by decide +kernel
theorem dX8_event_23 : decode cX8_event 23 = .ok (.bipush 30, 2) := by decide +kernel
theorem dX8_event_25 : decode cX8_event 25 = .ok (.iload_n 1, 1) := by decide +kernel
theorem dX8_event_26 : decode cX8_event 26 = .ok (.iadd, 1) := by decide +kernel
theorem dX8_event_27 : decode cX8_event 27 = .ok (.iaload, 1) := by decide +kernel
theorem dX8_event_28 : decode cX8_event 28 = .ok (.goto 4, 3) := by decide +kernel
theorem dX8_event_31 : decode cX8_event 31 = .ok (.iconst 0, 1) := by decide +kernel
theorem dX8_event_32 : decode cX8_event 32 = .ok (.ireturn, 1) := by decide +kernel
theorem dX8_count_0 : decode cX8_count 0 = .ok (.iload_n 1, 1) := by decide +kernel
theorem dX8_count_1 : decode cX8_count 1 = .ok (.i2l, 1) := by decide +kernel
theorem dX8_count_2 : decode cX8_count 2 = .ok (.ldc2_w 290, 3) := by decide +kernel
theorem dX8_count_5 : decode cX8_count 5 = .ok (.ldc2_w 141, 3) := by decide +kernel
theorem dX8_count_8 : decode cX8_count 8 = .ok (.invokestatic 123, 3) := by decide +kernel
theorem dX8_count_11 : decode cX8_count 11 = .ok (.ifCond .eq 12, 3) := by decide +kernel
theorem dX8_count_14 : decode cX8_count 14 = .ok (.aload_n 0, 1) := by decide +kernel
theorem dX8_count_15 : decode cX8_count 15 = .ok (.getfield 35, 3) := by decide +kernel
theorem dX8_count_18 : decode cX8_count 18 = .ok (.iload_n 1, 1) := by decide +kernel
theorem dX8_count_19 : decode cX8_count 19 = .ok (.iconst 4, 1) := by decide +kernel
theorem dX8_count_20 : decode cX8_count 20 = .ok (.isub, 1) := by decide +kernel
theorem dX8_count_21 : decode cX8_count 21 = .ok (.iaload, 1) := by decide +kernel
theorem dX8_count_22 : decode cX8_count 22 = .ok (.ireturn, 1) := by decide +kernel
theorem dX8_count_23 : decode cX8_count 23 = .ok (.iconst 0, 1) := by decide +kernel
theorem dX8_count_24 : decode cX8_count 24 = .ok (.istore_n 2, 1) := by decide +kernel
theorem dX8_count_25 : decode cX8_count 25 = .ok (.iconst 0, 1) := by decide +kernel
theorem dX8_count_26 : decode cX8_count 26 = .ok (.istore_n 3, 1) := by decide +kernel
theorem dX8_count_27 : decode cX8_count 27 = .ok (.iload_n 3, 1) := by decide +kernel
theorem dX8_count_28 : decode cX8_count 28 = .ok (.iconst 4, 1) := by decide +kernel
theorem dX8_count_29 : decode cX8_count 29 = .ok (.if_icmp .ge 26, 3) := by decide +kernel
theorem dX8_count_32 : decode cX8_count 32 = .ok (.iload_n 2, 1) := by decide +kernel
theorem dX8_count_33 : decode cX8_count 33 = .ok (.aload_n 0, 1) := by decide +kernel
theorem dX8_count_34 : decode cX8_count 34 = .ok (.getfield 28, 3) := by decide +kernel
theorem dX8_count_37 : decode cX8_count 37 = .ok (.iload_n 3, 1) := by decide +kernel
theorem dX8_count_38 : decode cX8_count 38 = .ok (.iaload, 1) := by decide +kernel
theorem dX8_count_39 : decode cX8_count 39 = .ok (.ifCond .ge 7, 3) := by decide +kernel
theorem dX8_count_42 : decode cX8_count 42 = .ok (.iconst 0, 1) := by decide +kernel
theorem dX8_count_43 : decode cX8_count 43 = .ok (.goto 4, 3) := by decide +kernel
theorem dX8_count_46 : decode cX8_count 46 = .ok (.iconst 1, 1) := by decide +kernel
theorem dX8_count_47 : decode cX8_count 47 = .ok (.iadd, 1) := by decide +kernel
theorem dX8_count_48 : decode cX8_count 48 = .ok (.istore_n 2, 1) := by decide +kernel
theorem dX8_count_49 : decode cX8_count 49 = .ok (.iinc 3 1, 3) := by decide +kernel
theorem dX8_count_52 : decode cX8_count 52 = .ok (.goto (-25), 3) := by decide +kernel
theorem dX8_count_55 : decode cX8_count 55 = .ok (.iload_n 1, 1) := by decide +kernel
theorem dX8_count_56 : decode cX8_count 56 = .ok (.ifCond .ne 13, 3) := by decide +kernel
theorem dX8_count_59 : decode cX8_count 59 = .ok (.aload_n 0, 1) := by decide +kernel
theorem dX8_count_60 : decode cX8_count 60 = .ok (.getfield 7, 3) := by decide +kernel
theorem dX8_count_63 : decode cX8_count 63 = .ok (.bipush 28, 2) := by decide +kernel
theorem dX8_count_65 : decode cX8_count 65 = .ok (.iaload, 1) := by decide +kernel
theorem dX8_count_66 : decode cX8_count 66 = .ok (.goto 54, 3) := by decide +kernel
theorem dX8_count_69 : decode cX8_count 69 = .ok (.iload_n 1, 1) := by decide +kernel
theorem dX8_count_70 : decode cX8_count 70 = .ok (.iconst 1, 1) := by decide +kernel
theorem dX8_count_71 : decode cX8_count 71 = .ok (.if_icmp .ne 13, 3) := by decide +kernel
theorem dX8_count_74 : decode cX8_count 74 = .ok (.aload_n 0, 1) := by decide +kernel
theorem dX8_count_75 : decode cX8_count 75 = .ok (.getfield 7, 3) := by decide +kernel
theorem dX8_count_78 : decode cX8_count 78 = .ok (.bipush 29, 2) := by decide +kernel
theorem dX8_count_80 : decode cX8_count 80 = .ok (.iaload, 1) := by decide +kernel
theorem dX8_count_81 : decode cX8_count 81 = .ok (.goto 39, 3) := by decide +kernel
theorem dX8_count_84 : decode cX8_count 84 = .ok (.iload_n 1, 1) := by decide +kernel
theorem dX8_count_85 : decode cX8_count 85 = .ok (.iconst 2, 1) := by decide +kernel
theorem dX8_count_86 : decode cX8_count 86 = .ok (.if_icmp .ne 10, 3) := by decide +kernel
theorem dX8_count_89 : decode cX8_count 89 = .ok (.aload_n 0, 1) := by decide +kernel
theorem dX8_count_90 : decode cX8_count 90 = .ok (.getfield 127, 3) := by decide +kernel
theorem dX8_count_93 : decode cX8_count 93 = .ok (.goto 27, 3) := by decide +kernel
theorem dX8_count_96 : decode cX8_count 96 = .ok (.iload_n 1, 1) := by decide +kernel
theorem dX8_count_97 : decode cX8_count 97 = .ok (.iconst 3, 1) := by decide +kernel
theorem dX8_count_98 : decode cX8_count 98 = .ok (.if_icmp .ne 11, 3) := by decide +kernel
theorem dX8_count_101 : decode cX8_count 101 = .ok (.aload_n 0, 1) := by decide +kernel
theorem dX8_count_102 : decode cX8_count 102 = .ok (.getfield 181, 3) := by decide +kernel
theorem dX8_count_105 : decode cX8_count 105 = .ok (.l2i, 1) := by decide +kernel
theorem dX8_count_106 : decode cX8_count 106 = .ok (.goto 14, 3) := by decide +kernel
theorem dX8_count_109 : decode cX8_count 109 = .ok (.iload_n 1, 1) := by decide +kernel
theorem dX8_count_110 : decode cX8_count 110 = .ok (.bipush 10, 2) := by decide +kernel
theorem dX8_count_112 : decode cX8_count 112 = .ok (.if_icmp .ne 7, 3) := by decide +kernel
theorem dX8_count_115 : decode cX8_count 115 = .ok (.iload_n 2, 1) := by decide +kernel
theorem dX8_count_116 : decode cX8_count 116 = .ok (.goto 4, 3) := by decide +kernel
theorem dX8_count_119 : decode cX8_count 119 = .ok (.iconst (-1), 1) := by decide +kernel
theorem dX8_count_120 : decode cX8_count 120 = .ok (.ireturn, 1) := by decide +kernel
