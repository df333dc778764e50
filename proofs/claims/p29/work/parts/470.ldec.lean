theorem dL_isKept_0 : decode cL_isKept 0 = .ok (.aload_n 0, 1) := by decide +kernel
theorem dL_isKept_1 : decode cL_isKept 1 = .ok (.bipush 6, 2) := by decide +kernel
theorem dL_isKept_3 : decode cL_isKept 3 = .ok (.iload_n 1, 1) := by decide +kernel
theorem dL_isKept_4 : decode cL_isKept 4 = .ok (.iconst 0, 1) := by decide +kernel
theorem dL_isKept_5 : decode cL_isKept 5 = .ok (.invokestatic 82, 3) := by decide +kernel
theorem dL_isKept_8 : decode cL_isKept 8 = .ok (.ifCond .le 14, 3) := by decide +kernel
theorem dL_isKept_11 : decode cL_isKept 11 = .ok (.aload_n 0, 1) := by decide +kernel
theorem dL_isKept_12 : decode cL_isKept 12 = .ok (.invokestatic 88, 3) := by decide +kernel
theorem dL_isKept_15 : decode cL_isKept 15 = .ok (.ifCond .eq 7, 3) := by decide +kernel
theorem dL_isKept_18 : decode cL_isKept 18 = .ok (.iconst 1, 1) := by decide +kernel
theorem dL_isKept_19 : decode cL_isKept 19 = .ok (.goto 4, 3) := by decide +kernel
theorem dL_isKept_22 : decode cL_isKept 22 = .ok (.iconst 0, 1) := by decide +kernel
theorem dL_isKept_23 : decode cL_isKept 23 = .ok (.istore_n 3, 1) := by decide +kernel
theorem dL_isKept_24 : decode cL_isKept 24 = .ok (.iconst 0, 1) := by decide +kernel
theorem dL_isKept_25 : decode cL_isKept 25 = .ok (.istore 4, 2) := by decide +kernel
theorem dL_isKept_27 : decode cL_isKept 27 = .ok (.bipush 24, 2) := by decide +kernel
theorem dL_isKept_29 : decode cL_isKept 29 = .ok (.newarray .int, 2) := by decide +kernel
theorem dL_isKept_31 : decode cL_isKept 31 = .ok (.astore 5, 2) := by decide +kernel
theorem dL_isKept_33 : decode cL_isKept 33 = .ok (.iconst 0, 1) := by decide +kernel
theorem dL_isKept_34 : decode cL_isKept 34 = .ok (.istore 6, 2) := by decide +kernel
theorem dL_isKept_36 : decode cL_isKept 36 = .ok (.iload 6, 2) := by decide +kernel
theorem dL_isKept_38 : decode cL_isKept 38 = .ok (.bipush 6, 2) := by decide +kernel
theorem dL_isKept_40 : decode cL_isKept 40 = .ok (.if_icmp .ge 146, 3) := by decide +kernel
theorem dL_isKept_43 : decode cL_isKept 43 = .ok (.iload_n 3, 1) := by decide +kernel
theorem dL_isKept_44 : decode cL_isKept 44 = .ok (.ifCond .eq 142, 3) := by decide +kernel
theorem dL_isKept_47 : decode cL_isKept 47 = .ok (.iload_n 1, 1) := by decide +kernel
theorem dL_isKept_48 : decode cL_isKept 48 = .ok (.iload 6, 2) := by decide +kernel
theorem dL_isKept_50 : decode cL_isKept 50 = .ok (.ishr, 1) := by decide +kernel
theorem dL_isKept_51 : decode cL_isKept 51 = .ok (.iconst 1, 1) := by decide +kernel
theorem dL_isKept_52 : decode cL_isKept 52 = .ok (.iand, 1) := by decide +kernel
theorem dL_isKept_53 : decode cL_isKept 53 = .ok (.iconst 1, 1) := by decide +kernel
theorem dL_isKept_54 : decode cL_isKept 54 = .ok (.if_icmp .ne 20, 3) := by decide +kernel
theorem dL_isKept_57 : decode cL_isKept 57 = .ok (.aload_n 0, 1) := by decide +kernel
theorem dL_isKept_58 : decode cL_isKept 58 = .ok (.bipush 10, 2) := by decide +kernel
theorem dL_isKept_60 : decode cL_isKept 60 = .ok (.iload 6, 2) := by decide +kernel
theorem dL_isKept_62 : decode cL_isKept 62 = .ok (.iconst 0, 1) := by decide +kernel
theorem dL_isKept_63 : decode cL_isKept 63 = .ok (.invokestatic 82, 3) := by decide +kernel
theorem dL_isKept_66 : decode cL_isKept 66 = .ok (.iconst 1, 1) := by decide +kernel
theorem dL_isKept_67 : decode cL_isKept 67 = .ok (.if_icmp .ne 7, 3) := by decide +kernel
theorem dL_isKept_70 : decode cL_isKept 70 = .ok (.iconst 1, 1) := by decide +kernel
theorem dL_isKept_71 : decode cL_isKept 71 = .ok (.goto 4, 3) := by decide +kernel
theorem dL_isKept_74 : decode cL_isKept 74 = .ok (.iconst 0, 1) := by decide +kernel
theorem dL_isKept_75 : decode cL_isKept 75 = .ok (.istore 7, 2) := by decide +kernel
theorem dL_isKept_77 : decode cL_isKept 77 = .ok (.iload 4, 2) := by decide +kernel
theorem dL_isKept_79 : decode cL_isKept 79 = .ok (.iload 7, 2) := by decide +kernel
theorem dL_isKept_81 : decode cL_isKept 81 = .ok (.ifCond .eq 10, 3) := by decide +kernel
theorem dL_isKept_84 : decode cL_isKept 84 = .ok (.iconst 1, 1) := by decide +kernel
theorem dL_isKept_85 : decode cL_isKept 85 = .ok (.iload 6, 2) := by decide +kernel
theorem dL_isKept_87 : decode cL_isKept 87 = .ok (.ishl, 1) := by decide +kernel
theorem dL_isKept_88 : decode cL_isKept 88 = .ok (.goto 4, 3) := by decide +kernel
theorem dL_isKept_91 : decode cL_isKept 91 = .ok (.iconst 0, 1) := by decide +kernel
theorem dL_isKept_92 : decode cL_isKept 92 = .ok (.ior, 1) := by decide +kernel
theorem dL_isKept_93 : decode cL_isKept 93 = .ok (.istore 4, 2) := by decide +kernel
theorem dL_isKept_95 : decode cL_isKept 95 = .ok (.aload_n 0, 1) := by decide +kernel
theorem dL_isKept_96 : decode cL_isKept 96 = .ok (.bipush 10, 2) := by decide +kernel
theorem dL_isKept_98 : decode cL_isKept 98 = .ok (.iload 6, 2) := by decide +kernel
theorem dL_isKept_100 : decode cL_isKept 100 = .ok (.iconst 1, 1) := by decide +kernel
theorem dL_isKept_101 : decode cL_isKept 101 = .ok (.invokestatic 82, 3) := by decide +kernel
theorem dL_isKept_104 : decode cL_isKept 104 = .ok (.ifCond .ne 39, 3) := by decide +kernel
theorem dL_isKept_107 : decode cL_isKept 107 = .ok (.iload 7, 2) := by decide +kernel
theorem dL_isKept_109 : decode cL_isKept 109 = .ok (.ifCond .eq 30, 3) := by decide +kernel
theorem dL_isKept_112 : decode cL_isKept 112 = .ok (.aload_n 0, 1) := by decide +kernel
theorem dL_isKept_113 : decode cL_isKept 113 = .ok (.bipush 13, 2) := by decide +kernel
theorem dL_isKept_115 : decode cL_isKept 115 = .ok (.iload 6, 2) := by decide +kernel
theorem dL_isKept_117 : decode cL_isKept 117 = .ok (.iconst 0, 1) := by decide +kernel
theorem dL_isKept_118 : decode cL_isKept 118 = .ok (.invokestatic 82, 3) := by decide +kernel
theorem dL_isKept_121 : decode cL_isKept 121 = .ok (.iload_n 2, 1) := by decide +kernel
theorem dL_isKept_122 : decode cL_isKept 122 = .ok (.iand, 1) := by decide +kernel
theorem dL_isKept_123 : decode cL_isKept 123 = .ok (.ifCond .ne 16, 3) := by decide +kernel
theorem dL_isKept_126 : decode cL_isKept 126 = .ok (.aload_n 0, 1) := by decide +kernel
theorem dL_isKept_127 : decode cL_isKept 127 = .ok (.bipush 10, 2) := by decide +kernel
theorem dL_isKept_129 : decode cL_isKept 129 = .ok (.iload 6, 2) := by decide +kernel
theorem dL_isKept_131 : decode cL_isKept 131 = .ok (.iconst 3, 1) := by decide +kernel
theorem dL_isKept_132 : decode cL_isKept 132 = .ok (.invokestatic 82, 3) := by decide +kernel
theorem dL_isKept_135 : decode cL_isKept 135 = .ok (.iconst 1, 1) := by decide +kernel
theorem dL_isKept_136 : decode cL_isKept 136 = .ok (.if_icmp .ne 7, 3) := by decide +kernel
theorem dL_isKept_139 : decode cL_isKept 139 = .ok (.iconst 1, 1) := by decide +kernel
theorem dL_isKept_140 : decode cL_isKept 140 = .ok (.goto 4, 3) := by decide +kernel
theorem dL_isKept_143 : decode cL_isKept 143 = .ok (.iconst 0, 1) := by decide +kernel
theorem dL_isKept_144 : decode cL_isKept 144 = .ok (.istore_n 3, 1) := by decide +kernel
theorem dL_isKept_145 : decode cL_isKept 145 = .ok (.iconst 0, 1) := by decide +kernel
theorem dL_isKept_146 : decode cL_isKept 146 = .ok (.istore 8, 2) := by decide +kernel
theorem dL_isKept_148 : decode cL_isKept 148 = .ok (.iload 8, 2) := by decide +kernel
theorem dL_isKept_150 : decode cL_isKept 150 = .ok (.iconst 4, 1) := by decide +kernel
theorem dL_isKept_151 : decode cL_isKept 151 = .ok (.if_icmp .ge 29, 3) := by decide +kernel
theorem dL_isKept_154 : decode cL_isKept 154 = .ok (.aload 5, 2) := by decide +kernel
theorem dL_isKept_156 : decode cL_isKept 156 = .ok (.iconst 4, 1) := by decide +kernel
theorem dL_isKept_157 : decode cL_isKept 157 = .ok (.iload 6, 2) := by decide +kernel
theorem dL_isKept_159 : decode cL_isKept 159 = .ok (.imul, 1) := by decide +kernel
theorem dL_isKept_160 : decode cL_isKept 160 = .ok (.iload 8, 2) := by decide +kernel
theorem dL_isKept_162 : decode cL_isKept 162 = .ok (.iadd, 1) := by decide +kernel
theorem dL_isKept_163 : decode cL_isKept 163 = .ok (.aload_n 0, 1) := by decide +kernel
theorem dL_isKept_164 : decode cL_isKept 164 = .ok (.bipush 9, 2) := by decide +kernel
theorem dL_isKept_166 : decode cL_isKept 166 = .ok (.iload 6, 2) := by decide +kernel
theorem dL_isKept_168 : decode cL_isKept 168 = .ok (.iload 8, 2) := by decide +kernel
theorem dL_isKept_170 : decode cL_isKept 170 = .ok (.invokestatic 82, 3) := by decide +kernel
theorem dL_isKept_173 : decode cL_isKept 173 = .ok (.iastore, 1) := by decide +kernel
theorem dL_isKept_174 : decode cL_isKept 174 = .ok (.iinc 8 1, 3) := by decide +kernel
theorem dL_isKept_177 : decode cL_isKept 177 = .ok (.goto (-29), 3) := by decide +kernel
theorem dL_isKept_180 : decode cL_isKept 180 = .ok (.iinc 6 1, 3) := by decide +kernel
theorem dL_isKept_183 : decode cL_isKept 183 = .ok (.goto (-147), 3) := by decide +kernel
theorem dL_isKept_186 : decode cL_isKept 186 = .ok (.iload_n 3, 1) := by decide +kernel
theorem dL_isKept_187 : decode cL_isKept 187 = .ok (.ifCond .eq 17, 3) := by decide +kernel
theorem dL_isKept_190 : decode cL_isKept 190 = .ok (.iload 4, 2) := by decide +kernel
theorem dL_isKept_192 : decode cL_isKept 192 = .ok (.ifCond .eq 12, 3) := by decide +kernel
theorem dL_isKept_195 : decode cL_isKept 195 = .ok (.aload_n 0, 1) := by decide +kernel
theorem dL_isKept_196 : decode cL_isKept 196 = .ok (.invokevirtual 92, 3) := by decide +kernel
theorem dL_isKept_199 : decode cL_isKept 199 = .ok (.bipush 40, 2) := by decide +kernel
theorem dL_isKept_201 : decode cL_isKept 201 = .ok (.if_icmp .ne 5, 3) := by decide +kernel
theorem dL_isKept_204 : decode cL_isKept 204 = .ok (.iload_n 3, 1) := by decide +kernel
theorem dL_isKept_205 : decode cL_isKept 205 = .ok (.ireturn, 1) := by decide +kernel
theorem dL_isKept_206 : decode cL_isKept 206 = .ok (.iconst 0, 1) := by decide +kernel
theorem dL_isKept_207 : decode cL_isKept 207 = .ok (.istore 6, 2) := by decide +kernel
theorem dL_isKept_209 : decode cL_isKept 209 = .ok (.iconst 0, 1) := by decide +kernel
theorem dL_isKept_210 : decode cL_isKept 210 = .ok (.istore 7, 2) := by decide +kernel
theorem dL_isKept_212 : decode cL_isKept 212 = .ok (.iload 7, 2) := by decide +kernel
theorem dL_isKept_214 : decode cL_isKept 214 = .ok (.bipush 6, 2) := by decide +kernel
theorem dL_isKept_216 : decode cL_isKept 216 = .ok (.if_icmp .ge 38, 3) := by decide +kernel
theorem dL_isKept_219 : decode cL_isKept 219 = .ok (.iload 6, 2) := by decide +kernel
theorem dL_isKept_221 : decode cL_isKept 221 = .ok (.iload 4, 2) := by decide +kernel
theorem dL_isKept_223 : decode cL_isKept 223 = .ok (.iload 7, 2) := by decide +kernel
theorem dL_isKept_225 : decode cL_isKept 225 = .ok (.ishr, 1) := by decide +kernel
theorem dL_isKept_226 : decode cL_isKept 226 = .ok (.iconst 1, 1) := by decide +kernel
theorem dL_isKept_227 : decode cL_isKept 227 = .ok (.iand, 1) := by decide +kernel
theorem dL_isKept_228 : decode cL_isKept 228 = .ok (.iconst 1, 1) := by decide +kernel
theorem dL_isKept_229 : decode cL_isKept 229 = .ok (.if_icmp .ne 15, 3) := by decide +kernel
theorem dL_isKept_232 : decode cL_isKept 232 = .ok (.aload_n 0, 1) := by decide +kernel
theorem dL_isKept_233 : decode cL_isKept 233 = .ok (.bipush 13, 2) := by decide +kernel
theorem dL_isKept_235 : decode cL_isKept 235 = .ok (.iload 7, 2) := by decide +kernel
theorem dL_isKept_237 : decode cL_isKept 237 = .ok (.iconst 0, 1) := by decide +kernel
theorem dL_isKept_238 : decode cL_isKept 238 = .ok (.invokestatic 82, 3) := by decide +kernel
theorem dL_isKept_241 : decode cL_isKept 241 = .ok (.goto 4, 3) := by decide +kernel
theorem dL_isKept_244 : decode cL_isKept 244 = .ok (.iconst 0, 1) := by decide +kernel
theorem dL_isKept_245 : decode cL_isKept 245 = .ok (.ior, 1) := by decide +kernel
theorem dL_isKept_246 : decode cL_isKept 246 = .ok (.istore 6, 2) := by decide +kernel
theorem dL_isKept_248 : decode cL_isKept 248 = .ok (.iinc 7 1, 3) := by decide +kernel
theorem dL_isKept_251 : decode cL_isKept 251 = .ok (.goto (-39), 3) := by decide +kernel
theorem dL_isKept_254 : decode cL_isKept 254 = .ok (.aload_n 0, 1) := by decide +kernel
theorem dL_isKept_255 : decode cL_isKept 255 = .ok (.invokevirtual 92, 3) := by decide +kernel
theorem dL_isKept_258 : decode cL_isKept 258 = .ok (.istore 7, 2) := by decide +kernel
theorem dL_isKept_260 : decode cL_isKept 260 = .ok (.aload_n 0, 1) := by decide +kernel
theorem dL_isKept_261 : decode cL_isKept 261 = .ok (.bipush 12, 2) := by decide +kernel
theorem dL_isKept_263 : decode cL_isKept 263 = .ok (.iconst 0, 1) := by decide +kernel
theorem dL_isKept_264 : decode cL_isKept 264 = .ok (.iconst 0, 1) := by decide +kernel
theorem dL_isKept_265 : decode cL_isKept 265 = .ok (.invokestatic 82, 3) := by decide +kernel
theorem dL_isKept_268 : decode cL_isKept 268 = .ok (.istore 8, 2) := by decide +kernel
theorem dL_isKept_270 : decode cL_isKept 270 = .ok (.aload_n 0, 1) := by decide +kernel
theorem dL_isKept_271 : decode cL_isKept 271 = .ok (.bipush 12, 2) := by decide +kernel
theorem dL_isKept_273 : decode cL_isKept 273 = .ok (.iconst 1, 1) := by decide +kernel
theorem dL_isKept_274 : decode cL_isKept 274 = .ok (.iconst 0, 1) := by decide +kernel
theorem dL_isKept_275 : decode cL_isKept 275 = .ok (.invokestatic 82, 3) := by decide +kernel
theorem dL_isKept_278 : decode cL_isKept 278 = .ok (.istore 9, 2) := by decide +kernel
theorem dL_isKept_280 : decode cL_isKept 280 = .ok (.aload_n 0, 1) := by decide +kernel
theorem dL_isKept_281 : decode cL_isKept 281 = .ok (.bipush 6, 2) := by decide +kernel
theorem dL_isKept_283 : decode cL_isKept 283 = .ok (.iload 4, 2) := by decide +kernel
theorem dL_isKept_285 : decode cL_isKept 285 = .ok (.iconst 0, 1) := by decide +kernel
theorem dL_isKept_286 : decode cL_isKept 286 = .ok (.invokestatic 82, 3) := by decide +kernel
theorem dL_isKept_289 : decode cL_isKept 289 = .ok (.istore 10, 2) := by decide +kernel
theorem dL_isKept_291 : decode cL_isKept 291 = .ok (.iload 10, 2) := by decide +kernel
theorem dL_isKept_293 : decode cL_isKept 293 = .ok (.ifCond .le 52, 3) := by decide +kernel
theorem dL_isKept_296 : decode cL_isKept 296 = .ok (.aload_n 0, 1) := by decide +kernel
theorem dL_isKept_297 : decode cL_isKept 297 = .ok (.invokevirtual 78, 3) := by decide +kernel
theorem dL_isKept_300 : decode cL_isKept 300 = .ok (.ifCond .ne 45, 3) := by decide +kernel
theorem dL_isKept_303 : decode cL_isKept 303 = .ok (.aload_n 0, 1) := by decide +kernel
theorem dL_isKept_304 : decode cL_isKept 304 = .ok (.invokevirtual 92, 3) := by decide +kernel
theorem dL_isKept_307 : decode cL_isKept 307 = .ok (.iload 7, 2) := by decide +kernel
theorem dL_isKept_309 : decode cL_isKept 309 = .ok (.if_icmp .ne 36, 3) := by decide +kernel
theorem dL_isKept_312 : decode cL_isKept 312 = .ok (.aload_n 0, 1) := by decide +kernel
theorem dL_isKept_313 : decode cL_isKept 313 = .ok (.bipush 12, 2) := by decide +kernel
theorem dL_isKept_315 : decode cL_isKept 315 = .ok (.iconst 0, 1) := by decide +kernel
theorem dL_isKept_316 : decode cL_isKept 316 = .ok (.iconst 0, 1) := by decide +kernel
theorem dL_isKept_317 : decode cL_isKept 317 = .ok (.invokestatic 82, 3) := by decide +kernel
theorem dL_isKept_320 : decode cL_isKept 320 = .ok (.iload 8, 2) := by decide +kernel
theorem dL_isKept_322 : decode cL_isKept 322 = .ok (.if_icmp .ne 23, 3) := by decide +kernel
theorem dL_isKept_325 : decode cL_isKept 325 = .ok (.aload_n 0, 1) := by decide +kernel
theorem dL_isKept_326 : decode cL_isKept 326 = .ok (.bipush 12, 2) := by decide +kernel
theorem dL_isKept_328 : decode cL_isKept 328 = .ok (.iconst 1, 1) := by decide +kernel
theorem dL_isKept_329 : decode cL_isKept 329 = .ok (.iconst 0, 1) := by decide +kernel
theorem dL_isKept_330 : decode cL_isKept 330 = .ok (.invokestatic 82, 3) := by decide +kernel
theorem dL_isKept_333 : decode cL_isKept 333 = .ok (.iload 9, 2) := by decide +kernel
theorem dL_isKept_335 : decode cL_isKept 335 = .ok (.iload 10, 2) := by decide +kernel
theorem dL_isKept_337 : decode cL_isKept 337 = .ok (.iadd, 1) := by decide +kernel
theorem dL_isKept_338 : decode cL_isKept 338 = .ok (.if_icmp .ne 7, 3) := by decide +kernel
theorem dL_isKept_341 : decode cL_isKept 341 = .ok (.iconst 1, 1) := by decide +kernel
theorem dL_isKept_342 : decode cL_isKept 342 = .ok (.goto 4, 3) := by decide +kernel
theorem dL_isKept_345 : decode cL_isKept 345 = .ok (.iconst 0, 1) := by decide +kernel
theorem dL_isKept_346 : decode cL_isKept 346 = .ok (.istore_n 3, 1) := by decide +kernel
theorem dL_isKept_347 : decode cL_isKept 347 = .ok (.iconst 0, 1) := by decide +kernel
theorem dL_isKept_348 : decode cL_isKept 348 = .ok (.istore 11, 2) := by decide +kernel
theorem dL_isKept_350 : decode cL_isKept 350 = .ok (.iload 11, 2) := by decide +kernel
theorem dL_isKept_352 : decode cL_isKept 352 = .ok (.bipush 6, 2) := by decide +kernel
theorem dL_isKept_354 : decode cL_isKept 354 = .ok (.if_icmp .ge 155, 3) := by decide +kernel
theorem dL_isKept_357 : decode cL_isKept 357 = .ok (.iload_n 3, 1) := by decide +kernel
theorem dL_isKept_358 : decode cL_isKept 358 = .ok (.ifCond .eq 151, 3) := by decide +kernel
theorem dL_isKept_361 : decode cL_isKept 361 = .ok (.iload 6, 2) := by decide +kernel
theorem dL_isKept_363 : decode cL_isKept 363 = .ok (.iload 11, 2) := by decide +kernel
theorem dL_isKept_365 : decode cL_isKept 365 = .ok (.ishr, 1) := by decide +kernel
theorem dL_isKept_366 : decode cL_isKept 366 = .ok (.iconst 1, 1) := by decide +kernel
theorem dL_isKept_367 : decode cL_isKept 367 = .ok (.iand, 1) := by decide +kernel
theorem dL_isKept_368 : decode cL_isKept 368 = .ok (.iconst 1, 1) := by decide +kernel
theorem dL_isKept_369 : decode cL_isKept 369 = .ok (.if_icmp .ne 7, 3) := by decide +kernel
theorem dL_isKept_372 : decode cL_isKept 372 = .ok (.iconst 1, 1) := by decide +kernel
theorem dL_isKept_373 : decode cL_isKept 373 = .ok (.goto 4, 3) := by decide +kernel
theorem dL_isKept_376 : decode cL_isKept 376 = .ok (.iconst 0, 1) := by decide +kernel
theorem dL_isKept_377 : decode cL_isKept 377 = .ok (.istore 12, 2) := by decide +kernel
theorem dL_isKept_379 : decode cL_isKept 379 = .ok (.aload_n 0, 1) := by decide +kernel
theorem dL_isKept_380 : decode cL_isKept 380 = .ok (.bipush 8, 2) := by decide +kernel
theorem dL_isKept_382 : decode cL_isKept 382 = .ok (.iload 11, 2) := by decide +kernel
theorem dL_isKept_384 : decode cL_isKept 384 = .ok (.iconst 0, 1) := by decide +kernel
theorem dL_isKept_385 : decode cL_isKept 385 = .ok (.invokestatic 82, 3) := by decide +kernel
theorem dL_isKept_388 : decode cL_isKept 388 = .ok (.iconst 3, 1) := by decide +kernel
theorem dL_isKept_389 : decode cL_isKept 389 = .ok (.if_icmp .ne 7, 3) := by decide +kernel
theorem dL_isKept_392 : decode cL_isKept 392 = .ok (.iconst 1, 1) := by decide +kernel
theorem dL_isKept_393 : decode cL_isKept 393 = .ok (.goto 4, 3) := by decide +kernel
theorem dL_isKept_396 : decode cL_isKept 396 = .ok (.iconst 0, 1) := by decide +kernel
theorem dL_isKept_397 : decode cL_isKept 397 = .ok (.iload 12, 2) := by decide +kernel
theorem dL_isKept_399 : decode cL_isKept 399 = .ok (.if_icmp .ne 49, 3) := by decide +kernel
theorem dL_isKept_402 : decode cL_isKept 402 = .ok (.iload 12, 2) := by decide +kernel
theorem dL_isKept_404 : decode cL_isKept 404 = .ok (.ifCond .eq 40, 3) := by decide +kernel
theorem dL_isKept_407 : decode cL_isKept 407 = .ok (.aload_n 0, 1) := by decide +kernel
theorem dL_isKept_408 : decode cL_isKept 408 = .ok (.bipush 10, 2) := by decide +kernel
theorem dL_isKept_410 : decode cL_isKept 410 = .ok (.iload 11, 2) := by decide +kernel
theorem dL_isKept_412 : decode cL_isKept 412 = .ok (.iconst 0, 1) := by decide +kernel
theorem dL_isKept_413 : decode cL_isKept 413 = .ok (.invokestatic 82, 3) := by decide +kernel
theorem dL_isKept_416 : decode cL_isKept 416 = .ok (.iconst 1, 1) := by decide +kernel
theorem dL_isKept_417 : decode cL_isKept 417 = .ok (.if_icmp .ne 31, 3) := by decide +kernel
theorem dL_isKept_420 : decode cL_isKept 420 = .ok (.aload_n 0, 1) := by decide +kernel
theorem dL_isKept_421 : decode cL_isKept 421 = .ok (.bipush 10, 2) := by decide +kernel
theorem dL_isKept_423 : decode cL_isKept 423 = .ok (.iload 11, 2) := by decide +kernel
theorem dL_isKept_425 : decode cL_isKept 425 = .ok (.iconst 1, 1) := by decide +kernel
theorem dL_isKept_426 : decode cL_isKept 426 = .ok (.invokestatic 82, 3) := by decide +kernel
theorem dL_isKept_429 : decode cL_isKept 429 = .ok (.ifCond .ne 19, 3) := by decide +kernel
theorem dL_isKept_432 : decode cL_isKept 432 = .ok (.aload_n 0, 1) := by decide +kernel
theorem dL_isKept_433 : decode cL_isKept 433 = .ok (.bipush 11, 2) := by decide +kernel
theorem dL_isKept_435 : decode cL_isKept 435 = .ok (.iload 11, 2) := by decide +kernel
theorem dL_isKept_437 : decode cL_isKept 437 = .ok (.iconst 0, 1) := by decide +kernel
theorem dL_isKept_438 : decode cL_isKept 438 = .ok (.invokestatic 82, 3) := by decide +kernel
theorem dL_isKept_441 : decode cL_isKept 441 = .ok (.ifCond .lt 7, 3) := by decide +kernel
theorem dL_isKept_444 : decode cL_isKept 444 = .ok (.iconst 1, 1) := by decide +kernel
theorem dL_isKept_445 : decode cL_isKept 445 = .ok (.goto 4, 3) := by decide +kernel
theorem dL_isKept_448 : decode cL_isKept 448 = .ok (.iconst 0, 1) := by decide +kernel
theorem dL_isKept_449 : decode cL_isKept 449 = .ok (.istore_n 3, 1) := by decide +kernel
theorem dL_isKept_450 : decode cL_isKept 450 = .ok (.iconst 0, 1) := by decide +kernel
theorem dL_isKept_451 : decode cL_isKept 451 = .ok (.istore 13, 2) := by decide +kernel
theorem dL_isKept_453 : decode cL_isKept 453 = .ok (.iload 13, 2) := by decide +kernel
theorem dL_isKept_455 : decode cL_isKept 455 = .ok (.iconst 4, 1) := by decide +kernel
theorem dL_isKept_456 : decode cL_isKept 456 = .ok (.if_icmp .ge 47, 3) := by decide +kernel
theorem dL_isKept_459 : decode cL_isKept 459 = .ok (.iload_n 3, 1) := by decide +kernel
theorem dL_isKept_460 : decode cL_isKept 460 = .ok (.ifCond .eq 43, 3) := by decide +kernel
theorem dL_isKept_463 : decode cL_isKept 463 = .ok (.iload 12, 2) := by decide +kernel
theorem dL_isKept_465 : decode cL_isKept 465 = .ok (.ifCond .eq 38, 3) := by decide +kernel
theorem dL_isKept_468 : decode cL_isKept 468 = .ok (.aload_n 0, 1) := by decide +kernel
theorem dL_isKept_469 : decode cL_isKept 469 = .ok (.bipush 9, 2) := by decide +kernel
theorem dL_isKept_471 : decode cL_isKept 471 = .ok (.iload 11, 2) := by decide +kernel
theorem dL_isKept_473 : decode cL_isKept 473 = .ok (.iload 13, 2) := by decide +kernel
theorem dL_isKept_475 : decode cL_isKept 475 = .ok (.invokestatic 82, 3) := by decide +kernel
theorem dL_isKept_478 : decode cL_isKept 478 = .ok (.aload 5, 2) := by decide +kernel
theorem dL_isKept_480 : decode cL_isKept 480 = .ok (.iconst 4, 1) := by decide +kernel
theorem dL_isKept_481 : decode cL_isKept 481 = .ok (.iload 11, 2) := by decide +kernel
theorem dL_isKept_483 : decode cL_isKept 483 = .ok (.imul, 1) := by decide +kernel
theorem dL_isKept_484 : decode cL_isKept 484 = .ok (.iload 13, 2) := by decide +kernel
theorem dL_isKept_486 : decode cL_isKept 486 = .ok (.iadd, 1) := by decide +kernel
theorem dL_isKept_487 : decode cL_isKept 487 = .ok (.iaload, 1) := by decide +kernel
theorem dL_isKept_488 : decode cL_isKept 488 = .ok (.if_icmp .ne 7, 3) := by decide +kernel
theorem dL_isKept_491 : decode cL_isKept 491 = .ok (.iconst 1, 1) := by decide +kernel
theorem dL_isKept_492 : decode cL_isKept 492 = .ok (.goto 4, 3) := by decide +kernel
theorem dL_isKept_495 : decode cL_isKept 495 = .ok (.iconst 0, 1) := by decide +kernel
theorem dL_isKept_496 : decode cL_isKept 496 = .ok (.istore_n 3, 1) := by decide +kernel
theorem dL_isKept_497 : decode cL_isKept 497 = .ok (.iinc 13 1, 3) := by decide +kernel
theorem dL_isKept_500 : decode cL_isKept 500 = .ok (.goto (-47), 3) := by decide +kernel
theorem dL_isKept_503 : decode cL_isKept 503 = .ok (.iinc 11 1, 3) := by decide +kernel
theorem dL_isKept_506 : decode cL_isKept 506 = .ok (.goto (-156), 3) := by decide +kernel
theorem dL_isKept_509 : decode cL_isKept 509 = .ok (.iload_n 3, 1) := by decide +kernel
theorem dL_isKept_510 : decode cL_isKept 510 = .ok (.ireturn, 1) := by decide +kernel
theorem dL_law_0 : decode cL_law 0 = .ok (.new 9, 3) := by decide +kernel
theorem dL_law_3 : decode cL_law 3 = .ok (.dup, 1) := by decide +kernel
theorem dL_law_4 : decode cL_law 4 = .ok (.invokespecial 96, 3) := by decide +kernel
theorem dL_law_7 : decode cL_law 7 = .ok (.astore_n 1, 1) := by decide +kernel
theorem dL_law_8 : decode cL_law 8 = .ok (.iconst 1, 1) := by decide +kernel
theorem dL_law_9 : decode cL_law 9 = .ok (.istore_n 2, 1) := by decide +kernel
theorem dL_law_10 : decode cL_law 10 = .ok (.iconst 0, 1) := by decide +kernel
theorem dL_law_11 : decode cL_law 11 = .ok (.istore_n 3, 1) := by decide +kernel
theorem dL_law_12 : decode cL_law 12 = .ok (.iconst 0, 1) := by decide +kernel
theorem dL_law_13 : decode cL_law 13 = .ok (.istore 4, 2) := by decide +kernel
theorem dL_law_15 : decode cL_law 15 = .ok (.iload 4, 2) := by decide +kernel
theorem dL_law_17 : decode cL_law 17 = .ok (.bipush 6, 2) := by decide +kernel
theorem dL_law_19 : decode cL_law 19 = .ok (.if_icmp .ge 289, 3) := by decide +kernel
theorem dL_law_22 : decode cL_law 22 = .ok (.iload_n 2, 1) := by decide +kernel
theorem dL_law_23 : decode cL_law 23 = .ok (.ifCond .eq 285, 3) := by decide +kernel
theorem dL_law_26 : decode cL_law 26 = .ok (.aload_n 0, 1) := by decide +kernel
theorem dL_law_27 : decode cL_law 27 = .ok (.iload 4, 2) := by decide +kernel
theorem dL_law_29 : decode cL_law 29 = .ok (.invokestatic 97, 3) := by decide +kernel
theorem dL_law_32 : decode cL_law 32 = .ok (.istore 5, 2) := by decide +kernel
theorem dL_law_34 : decode cL_law 34 = .ok (.iload_n 3, 1) := by decide +kernel
theorem dL_law_35 : decode cL_law 35 = .ok (.iload 5, 2) := by decide +kernel
theorem dL_law_37 : decode cL_law 37 = .ok (.iconst 4, 1) := by decide +kernel
theorem dL_law_38 : decode cL_law 38 = .ok (.idiv, 1) := by decide +kernel
theorem dL_law_39 : decode cL_law 39 = .ok (.iconst 3, 1) := by decide +kernel
theorem dL_law_40 : decode cL_law 40 = .ok (.irem, 1) := by decide +kernel
theorem dL_law_41 : decode cL_law 41 = .ok (.iconst 2, 1) := by decide +kernel
theorem dL_law_42 : decode cL_law 42 = .ok (.if_icmp .ne 10, 3) := by decide +kernel
theorem dL_law_45 : decode cL_law 45 = .ok (.iconst 1, 1) := by decide +kernel
theorem dL_law_46 : decode cL_law 46 = .ok (.iload 4, 2) := by decide +kernel
theorem dL_law_48 : decode cL_law 48 = .ok (.ishl, 1) := by decide +kernel
theorem dL_law_49 : decode cL_law 49 = .ok (.goto 4, 3) := by decide +kernel
theorem dL_law_52 : decode cL_law 52 = .ok (.iconst 0, 1) := by decide +kernel
theorem dL_law_53 : decode cL_law 53 = .ok (.ior, 1) := by decide +kernel
theorem dL_law_54 : decode cL_law 54 = .ok (.istore_n 3, 1) := by decide +kernel
theorem dL_law_55 : decode cL_law 55 = .ok (.iconst 0, 1) := by decide +kernel
theorem dL_law_56 : decode cL_law 56 = .ok (.istore 6, 2) := by decide +kernel
theorem dL_law_58 : decode cL_law 58 = .ok (.iload 6, 2) := by decide +kernel
theorem dL_law_60 : decode cL_law 60 = .ok (.iload 5, 2) := by decide +kernel
theorem dL_law_62 : decode cL_law 62 = .ok (.iconst 2, 1) := by decide +kernel
theorem dL_law_63 : decode cL_law 63 = .ok (.irem, 1) := by decide +kernel
theorem dL_law_64 : decode cL_law 64 = .ok (.if_icmp .gt 125, 3) := by decide +kernel
theorem dL_law_67 : decode cL_law 67 = .ok (.iload_n 2, 1) := by decide +kernel
theorem dL_law_68 : decode cL_law 68 = .ok (.ifCond .eq 121, 3) := by decide +kernel
theorem dL_law_71 : decode cL_law 71 = .ok (.iload 5, 2) := by decide +kernel
theorem dL_law_73 : decode cL_law 73 = .ok (.iconst 2, 1) := by decide +kernel
theorem dL_law_74 : decode cL_law 74 = .ok (.idiv, 1) := by decide +kernel
theorem dL_law_75 : decode cL_law 75 = .ok (.bipush 37, 2) := by decide +kernel
theorem dL_law_77 : decode cL_law 77 = .ok (.iload 6, 2) := by decide +kernel
theorem dL_law_79 : decode cL_law 79 = .ok (.imul, 1) := by decide +kernel
theorem dL_law_80 : decode cL_law 80 = .ok (.iadd, 1) := by decide +kernel
theorem dL_law_81 : decode cL_law 81 = .ok (.istore 7, 2) := by decide +kernel
theorem dL_law_83 : decode cL_law 83 = .ok (.iload 7, 2) := by decide +kernel
theorem dL_law_85 : decode cL_law 85 = .ok (.iconst 2, 1) := by decide +kernel
theorem dL_law_86 : decode cL_law 86 = .ok (.irem, 1) := by decide +kernel
theorem dL_law_87 : decode cL_law 87 = .ok (.ifCond .ne 21, 3) := by decide +kernel
theorem dL_law_90 : decode cL_law 90 = .ok (.iload 4, 2) := by decide +kernel
theorem dL_law_92 : decode cL_law 92 = .ok (.ifCond .le 16, 3) := by decide +kernel
theorem dL_law_95 : decode cL_law 95 = .ok (.bipush 16, 2) := by decide +kernel
theorem dL_law_97 : decode cL_law 97 = .ok (.iload 7, 2) := by decide +kernel
theorem dL_law_99 : decode cL_law 99 = .ok (.iconst 2, 1) := by decide +kernel
theorem dL_law_100 : decode cL_law 100 = .ok (.idiv, 1) := by decide +kernel
theorem dL_law_101 : decode cL_law 101 = .ok (.iload 4, 2) := by decide +kernel
theorem dL_law_103 : decode cL_law 103 = .ok (.irem, 1) := by decide +kernel
theorem dL_law_104 : decode cL_law 104 = .ok (.iadd, 1) := by decide +kernel
theorem dL_law_105 : decode cL_law 105 = .ok (.goto 10, 3) := by decide +kernel
theorem dL_law_108 : decode cL_law 108 = .ok (.iload 7, 2) := by decide +kernel
theorem dL_law_110 : decode cL_law 110 = .ok (.iconst 2, 1) := by decide +kernel
theorem dL_law_111 : decode cL_law 111 = .ok (.idiv, 1) := by decide +kernel
theorem dL_law_112 : decode cL_law 112 = .ok (.bipush 16, 2) := by decide +kernel
theorem dL_law_114 : decode cL_law 114 = .ok (.irem, 1) := by decide +kernel
theorem dL_law_115 : decode cL_law 115 = .ok (.istore 8, 2) := by decide +kernel
theorem dL_law_117 : decode cL_law 117 = .ok (.aload_n 1, 1) := by decide +kernel
theorem dL_law_118 : decode cL_law 118 = .ok (.iload 8, 2) := by decide +kernel
theorem dL_law_120 : decode cL_law 120 = .ok (.iload 7, 2) := by decide +kernel
theorem dL_law_122 : decode cL_law 122 = .ok (.iconst 3, 1) := by decide +kernel
theorem dL_law_123 : decode cL_law 123 = .ok (.irem, 1) := by decide +kernel
theorem dL_law_124 : decode cL_law 124 = .ok (.ifCond .ne 13, 3) := by decide +kernel
theorem dL_law_127 : decode cL_law 127 = .ok (.iload 7, 2) := by decide +kernel
theorem dL_law_129 : decode cL_law 129 = .ok (.iconst 3, 1) := by decide +kernel
theorem dL_law_130 : decode cL_law 130 = .ok (.idiv, 1) := by decide +kernel
theorem dL_law_131 : decode cL_law 131 = .ok (.bipush 16, 2) := by decide +kernel
theorem dL_law_133 : decode cL_law 133 = .ok (.irem, 1) := by decide +kernel
theorem dL_law_134 : decode cL_law 134 = .ok (.goto 4, 3) := by decide +kernel
theorem dL_law_137 : decode cL_law 137 = .ok (.iconst (-1), 1) := by decide +kernel
theorem dL_law_138 : decode cL_law 138 = .ok (.iload 7, 2) := by decide +kernel
theorem dL_law_140 : decode cL_law 140 = .ok (.iconst 3, 1) := by decide +kernel
theorem dL_law_141 : decode cL_law 141 = .ok (.irem, 1) := by decide +kernel
theorem dL_law_142 : decode cL_law 142 = .ok (.ifCond .ne 12, 3) := by decide +kernel
theorem dL_law_145 : decode cL_law 145 = .ok (.iload 7, 2) := by decide +kernel
theorem dL_law_147 : decode cL_law 147 = .ok (.iconst 5, 1) := by decide +kernel
theorem dL_law_148 : decode cL_law 148 = .ok (.idiv, 1) := by decide +kernel
theorem dL_law_149 : decode cL_law 149 = .ok (.iconst 4, 1) := by decide +kernel
theorem dL_law_150 : decode cL_law 150 = .ok (.irem, 1) := by decide +kernel
theorem dL_law_151 : decode cL_law 151 = .ok (.goto 4, 3) := by decide +kernel
theorem dL_law_154 : decode cL_law 154 = .ok (.iconst 0, 1) := by decide +kernel
theorem dL_law_155 : decode cL_law 155 = .ok (.iload 7, 2) := by decide +kernel
theorem dL_law_157 : decode cL_law 157 = .ok (.iconst 3, 1) := by decide +kernel
theorem dL_law_158 : decode cL_law 158 = .ok (.irem, 1) := by decide +kernel
theorem dL_law_159 : decode cL_law 159 = .ok (.ifCond .ne 7, 3) := by decide +kernel
theorem dL_law_162 : decode cL_law 162 = .ok (.iconst 1, 1) := by decide +kernel
theorem dL_law_163 : decode cL_law 163 = .ok (.goto 4, 3) := by decide +kernel
theorem dL_law_166 : decode cL_law 166 = .ok (.iconst 0, 1) := by decide +kernel
theorem dL_law_167 : decode cL_law 167 = .ok (.invokestatic 101, 3) := by decide +kernel
theorem dL_law_170 : decode cL_law 170 = .ok (.iload 6, 2) := by decide +kernel
theorem dL_law_172 : decode cL_law 172 = .ok (.iconst 1, 1) := by decide +kernel
theorem dL_law_173 : decode cL_law 173 = .ok (.iadd, 1) := by decide +kernel
theorem dL_law_174 : decode cL_law 174 = .ok (.if_icmp .ne 7, 3) := by decide +kernel
theorem dL_law_177 : decode cL_law 177 = .ok (.iconst 1, 1) := by decide +kernel
theorem dL_law_178 : decode cL_law 178 = .ok (.goto 4, 3) := by decide +kernel
theorem dL_law_181 : decode cL_law 181 = .ok (.iconst 0, 1) := by decide +kernel
theorem dL_law_182 : decode cL_law 182 = .ok (.istore_n 2, 1) := by decide +kernel
theorem dL_law_183 : decode cL_law 183 = .ok (.iinc 6 1, 3) := by decide +kernel
theorem dL_law_186 : decode cL_law 186 = .ok (.goto (-128), 3) := by decide +kernel
theorem dL_law_189 : decode cL_law 189 = .ok (.iload_n 2, 1) := by decide +kernel
theorem dL_law_190 : decode cL_law 190 = .ok (.ifCond .eq 110, 3) := by decide +kernel
theorem dL_law_193 : decode cL_law 193 = .ok (.aload_n 1, 1) := by decide +kernel
theorem dL_law_194 : decode cL_law 194 = .ok (.iload 5, 2) := by decide +kernel
theorem dL_law_196 : decode cL_law 196 = .ok (.iconst 4, 1) := by decide +kernel
theorem dL_law_197 : decode cL_law 197 = .ok (.idiv, 1) := by decide +kernel
theorem dL_law_198 : decode cL_law 198 = .ok (.iconst 3, 1) := by decide +kernel
theorem dL_law_199 : decode cL_law 199 = .ok (.irem, 1) := by decide +kernel
theorem dL_law_200 : decode cL_law 200 = .ok (.iload 5, 2) := by decide +kernel
theorem dL_law_202 : decode cL_law 202 = .ok (.bipush 12, 2) := by decide +kernel
theorem dL_law_204 : decode cL_law 204 = .ok (.idiv, 1) := by decide +kernel
theorem dL_law_205 : decode cL_law 205 = .ok (.iconst 4, 1) := by decide +kernel
theorem dL_law_206 : decode cL_law 206 = .ok (.irem, 1) := by decide +kernel
theorem dL_law_207 : decode cL_law 207 = .ok (.iload 5, 2) := by decide +kernel
theorem dL_law_209 : decode cL_law 209 = .ok (.bipush 48, 2) := by decide +kernel
theorem dL_law_211 : decode cL_law 211 = .ok (.idiv, 1) := by decide +kernel
theorem dL_law_212 : decode cL_law 212 = .ok (.bipush 10, 2) := by decide +kernel
theorem dL_law_214 : decode cL_law 214 = .ok (.irem, 1) := by decide +kernel
theorem dL_law_215 : decode cL_law 215 = .ok (.iload 5, 2) := by decide +kernel
theorem dL_law_217 : decode cL_law 217 = .ok (.iconst 4, 1) := by decide +kernel
theorem dL_law_218 : decode cL_law 218 = .ok (.idiv, 1) := by decide +kernel
theorem dL_law_219 : decode cL_law 219 = .ok (.iconst 3, 1) := by decide +kernel
theorem dL_law_220 : decode cL_law 220 = .ok (.irem, 1) := by decide +kernel
theorem dL_law_221 : decode cL_law 221 = .ok (.iconst 2, 1) := by decide +kernel
theorem dL_law_222 : decode cL_law 222 = .ok (.if_icmp .ne 16, 3) := by decide +kernel
theorem dL_law_225 : decode cL_law 225 = .ok (.iconst 1, 1) := by decide +kernel
theorem dL_law_226 : decode cL_law 226 = .ok (.iload 5, 2) := by decide +kernel
theorem dL_law_228 : decode cL_law 228 = .ok (.sipush 480, 3) := by decide +kernel
theorem dL_law_231 : decode cL_law 231 = .ok (.idiv, 1) := by decide +kernel
theorem dL_law_232 : decode cL_law 232 = .ok (.iconst 2, 1) := by decide +kernel
theorem dL_law_233 : decode cL_law 233 = .ok (.irem, 1) := by decide +kernel
theorem dL_law_234 : decode cL_law 234 = .ok (.iadd, 1) := by decide +kernel
theorem dL_law_235 : decode cL_law 235 = .ok (.goto 4, 3) := by decide +kernel
theorem dL_law_238 : decode cL_law 238 = .ok (.iconst 1, 1) := by decide +kernel
theorem dL_law_239 : decode cL_law 239 = .ok (.iload 5, 2) := by decide +kernel
theorem dL_law_241 : decode cL_law 241 = .ok (.sipush 960, 3) := by decide +kernel
theorem dL_law_244 : decode cL_law 244 = .ok (.idiv, 1) := by decide +kernel
theorem dL_law_245 : decode cL_law 245 = .ok (.iconst 3, 1) := by decide +kernel
theorem dL_law_246 : decode cL_law 246 = .ok (.irem, 1) := by decide +kernel
theorem dL_law_247 : decode cL_law 247 = .ok (.ifCond .ne 19, 3) := by decide +kernel
theorem dL_law_250 : decode cL_law 250 = .ok (.ldc 104, 2) := by decide +kernel
theorem dL_law_252 : decode cL_law 252 = .ok (.iconst 1, 1) := by decide +kernel
theorem dL_law_253 : decode cL_law 253 = .ok (.iload 5, 2) := by decide +kernel
theorem dL_law_255 : decode cL_law 255 = .ok (.bipush 7, 2) := by decide +kernel
theorem dL_law_257 : decode cL_law 257 = .ok (.idiv, 1) := by decide +kernel
theorem dL_law_258 : decode cL_law 258 = .ok (.bipush 16, 2) := by decide +kernel
theorem dL_law_260 : decode cL_law 260 = .ok (.irem, 1) := by decide +kernel
theorem dL_law_261 : decode cL_law 261 = .ok (.ishl, 1) := by decide +kernel
theorem dL_law_262 : decode cL_law 262 = .ok (.isub, 1) := by decide +kernel
theorem dL_law_263 : decode cL_law 263 = .ok (.goto 4, 3) := by decide +kernel
theorem dL_law_266 : decode cL_law 266 = .ok (.iconst (-1), 1) := by decide +kernel
theorem dL_law_267 : decode cL_law 267 = .ok (.iload 5, 2) := by decide +kernel
theorem dL_law_269 : decode cL_law 269 = .ok (.iconst 4, 1) := by decide +kernel
theorem dL_law_270 : decode cL_law 270 = .ok (.idiv, 1) := by decide +kernel
theorem dL_law_271 : decode cL_law 271 = .ok (.iconst 3, 1) := by decide +kernel
theorem dL_law_272 : decode cL_law 272 = .ok (.irem, 1) := by decide +kernel
theorem dL_law_273 : decode cL_law 273 = .ok (.iconst 2, 1) := by decide +kernel
theorem dL_law_274 : decode cL_law 274 = .ok (.if_icmp .ne 13, 3) := by decide +kernel
theorem dL_law_277 : decode cL_law 277 = .ok (.iload 5, 2) := by decide +kernel
theorem dL_law_279 : decode cL_law 279 = .ok (.bipush 11, 2) := by decide +kernel
theorem dL_law_281 : decode cL_law 281 = .ok (.idiv, 1) := by decide +kernel
theorem dL_law_282 : decode cL_law 282 = .ok (.iconst 3, 1) := by decide +kernel
theorem dL_law_283 : decode cL_law 283 = .ok (.irem, 1) := by decide +kernel
theorem dL_law_284 : decode cL_law 284 = .ok (.goto 4, 3) := by decide +kernel
theorem dL_law_287 : decode cL_law 287 = .ok (.iconst 0, 1) := by decide +kernel
theorem dL_law_288 : decode cL_law 288 = .ok (.invokestatic 105, 3) := by decide +kernel
theorem dL_law_291 : decode cL_law 291 = .ok (.iload 4, 2) := by decide +kernel
theorem dL_law_293 : decode cL_law 293 = .ok (.if_icmp .ne 7, 3) := by decide +kernel
theorem dL_law_296 : decode cL_law 296 = .ok (.iconst 1, 1) := by decide +kernel
theorem dL_law_297 : decode cL_law 297 = .ok (.goto 4, 3) := by decide +kernel
theorem dL_law_300 : decode cL_law 300 = .ok (.iconst 0, 1) := by decide +kernel
theorem dL_law_301 : decode cL_law 301 = .ok (.istore_n 2, 1) := by decide +kernel
theorem dL_law_302 : decode cL_law 302 = .ok (.iinc 4 1, 3) := by decide +kernel
theorem dL_law_305 : decode cL_law 305 = .ok (.goto (-290), 3) := by decide +kernel
theorem dL_law_308 : decode cL_law 308 = .ok (.iconst 0, 1) := by decide +kernel
theorem dL_law_309 : decode cL_law 309 = .ok (.istore 4, 2) := by decide +kernel
theorem dL_law_311 : decode cL_law 311 = .ok (.iload 4, 2) := by decide +kernel
theorem dL_law_313 : decode cL_law 313 = .ok (.bipush 9, 2) := by decide +kernel
theorem dL_law_315 : decode cL_law 315 = .ok (.if_icmp .ge 241, 3) := by decide +kernel
theorem dL_law_318 : decode cL_law 318 = .ok (.iload_n 2, 1) := by decide +kernel
theorem dL_law_319 : decode cL_law 319 = .ok (.ifCond .eq 237, 3) := by decide +kernel
theorem dL_law_322 : decode cL_law 322 = .ok (.aload_n 0, 1) := by decide +kernel
theorem dL_law_323 : decode cL_law 323 = .ok (.bipush 6, 2) := by decide +kernel
theorem dL_law_325 : decode cL_law 325 = .ok (.iload 4, 2) := by decide +kernel
theorem dL_law_327 : decode cL_law 327 = .ok (.iadd, 1) := by decide +kernel
theorem dL_law_328 : decode cL_law 328 = .ok (.invokestatic 97, 3) := by decide +kernel
theorem dL_law_331 : decode cL_law 331 = .ok (.istore 5, 2) := by decide +kernel
theorem dL_law_333 : decode cL_law 333 = .ok (.iconst 0, 1) := by decide +kernel
theorem dL_law_334 : decode cL_law 334 = .ok (.istore 6, 2) := by decide +kernel
theorem dL_law_336 : decode cL_law 336 = .ok (.iload 6, 2) := by decide +kernel
theorem dL_law_338 : decode cL_law 338 = .ok (.iconst 4, 1) := by decide +kernel
theorem dL_law_339 : decode cL_law 339 = .ok (.if_icmp .ge 57, 3) := by decide +kernel
theorem dL_law_342 : decode cL_law 342 = .ok (.iload_n 2, 1) := by decide +kernel
theorem dL_law_343 : decode cL_law 343 = .ok (.ifCond .eq 53, 3) := by decide +kernel
theorem dL_law_346 : decode cL_law 346 = .ok (.aload_n 1, 1) := by decide +kernel
theorem dL_law_347 : decode cL_law 347 = .ok (.iconst 4, 1) := by decide +kernel
theorem dL_law_348 : decode cL_law 348 = .ok (.iload 6, 2) := by decide +kernel
theorem dL_law_350 : decode cL_law 350 = .ok (.iload 6, 2) := by decide +kernel
theorem dL_law_352 : decode cL_law 352 = .ok (.iload 5, 2) := by decide +kernel
theorem dL_law_354 : decode cL_law 354 = .ok (.iconst 4, 1) := by decide +kernel
theorem dL_law_355 : decode cL_law 355 = .ok (.irem, 1) := by decide +kernel
theorem dL_law_356 : decode cL_law 356 = .ok (.if_icmp .ne 15, 3) := by decide +kernel
theorem dL_law_359 : decode cL_law 359 = .ok (.iconst 1, 1) := by decide +kernel
theorem dL_law_360 : decode cL_law 360 = .ok (.iload 5, 2) := by decide +kernel
theorem dL_law_362 : decode cL_law 362 = .ok (.iconst 4, 1) := by decide +kernel
theorem dL_law_363 : decode cL_law 363 = .ok (.idiv, 1) := by decide +kernel
theorem dL_law_364 : decode cL_law 364 = .ok (.bipush 9, 2) := by decide +kernel
theorem dL_law_366 : decode cL_law 366 = .ok (.irem, 1) := by decide +kernel
theorem dL_law_367 : decode cL_law 367 = .ok (.iadd, 1) := by decide +kernel
theorem dL_law_368 : decode cL_law 368 = .ok (.goto 10, 3) := by decide +kernel
theorem dL_law_371 : decode cL_law 371 = .ok (.iload 5, 2) := by decide +kernel
theorem dL_law_373 : decode cL_law 373 = .ok (.bipush 36, 2) := by decide +kernel
theorem dL_law_375 : decode cL_law 375 = .ok (.idiv, 1) := by decide +kernel
theorem dL_law_376 : decode cL_law 376 = .ok (.iconst 3, 1) := by decide +kernel
theorem dL_law_377 : decode cL_law 377 = .ok (.irem, 1) := by decide +kernel
theorem dL_law_378 : decode cL_law 378 = .ok (.invokestatic 82, 3) := by decide +kernel
theorem dL_law_381 : decode cL_law 381 = .ok (.ifCond .lt 7, 3) := by decide +kernel
theorem dL_law_384 : decode cL_law 384 = .ok (.iconst 1, 1) := by decide +kernel
theorem dL_law_385 : decode cL_law 385 = .ok (.goto 4, 3) := by decide +kernel
theorem dL_law_388 : decode cL_law 388 = .ok (.iconst 0, 1) := by decide +kernel
theorem dL_law_389 : decode cL_law 389 = .ok (.istore_n 2, 1) := by decide +kernel
theorem dL_law_390 : decode cL_law 390 = .ok (.iinc 6 1, 3) := by decide +kernel
theorem dL_law_393 : decode cL_law 393 = .ok (.goto (-57), 3) := by decide +kernel
theorem dL_law_396 : decode cL_law 396 = .ok (.aload_n 1, 1) := by decide +kernel
theorem dL_law_397 : decode cL_law 397 = .ok (.iload 5, 2) := by decide +kernel
theorem dL_law_399 : decode cL_law 399 = .ok (.iconst 3, 1) := by decide +kernel
theorem dL_law_400 : decode cL_law 400 = .ok (.irem, 1) := by decide +kernel
theorem dL_law_401 : decode cL_law 401 = .ok (.ifCond .le 7, 3) := by decide +kernel
theorem dL_law_404 : decode cL_law 404 = .ok (.iconst 1, 1) := by decide +kernel
theorem dL_law_405 : decode cL_law 405 = .ok (.goto 4, 3) := by decide +kernel
theorem dL_law_408 : decode cL_law 408 = .ok (.iconst 0, 1) := by decide +kernel
theorem dL_law_409 : decode cL_law 409 = .ok (.iload 5, 2) := by decide +kernel
theorem dL_law_411 : decode cL_law 411 = .ok (.iconst 2, 1) := by decide +kernel
theorem dL_law_412 : decode cL_law 412 = .ok (.irem, 1) := by decide +kernel
theorem dL_law_413 : decode cL_law 413 = .ok (.ifCond .ne 7, 3) := by decide +kernel
theorem dL_law_416 : decode cL_law 416 = .ok (.iconst 1, 1) := by decide +kernel
theorem dL_law_417 : decode cL_law 417 = .ok (.goto 4, 3) := by decide +kernel
theorem dL_law_420 : decode cL_law 420 = .ok (.iconst 0, 1) := by decide +kernel
theorem dL_law_421 : decode cL_law 421 = .ok (.invokevirtual 108, 3) := by decide +kernel
theorem dL_law_424 : decode cL_law 424 = .ok (.iload 5, 2) := by decide +kernel
theorem dL_law_426 : decode cL_law 426 = .ok (.bipush 108, 2) := by decide +kernel
theorem dL_law_428 : decode cL_law 428 = .ok (.idiv, 1) := by decide +kernel
theorem dL_law_429 : decode cL_law 429 = .ok (.iconst 3, 1) := by decide +kernel
theorem dL_law_430 : decode cL_law 430 = .ok (.irem, 1) := by decide +kernel
theorem dL_law_431 : decode cL_law 431 = .ok (.istore 6, 2) := by decide +kernel
theorem dL_law_433 : decode cL_law 433 = .ok (.iload 6, 2) := by decide +kernel
theorem dL_law_435 : decode cL_law 435 = .ok (.ifCond .ne 29, 3) := by decide +kernel
theorem dL_law_438 : decode cL_law 438 = .ok (.aload_n 1, 1) := by decide +kernel
theorem dL_law_439 : decode cL_law 439 = .ok (.iconst 0, 1) := by decide +kernel
theorem dL_law_440 : decode cL_law 440 = .ok (.iload 5, 2) := by decide +kernel
theorem dL_law_442 : decode cL_law 442 = .ok (.sipush 324, 3) := by decide +kernel
theorem dL_law_445 : decode cL_law 445 = .ok (.idiv, 1) := by decide +kernel
theorem dL_law_446 : decode cL_law 446 = .ok (.bipush 16, 2) := by decide +kernel
theorem dL_law_448 : decode cL_law 448 = .ok (.irem, 1) := by decide +kernel
theorem dL_law_449 : decode cL_law 449 = .ok (.iload 5, 2) := by decide +kernel
theorem dL_law_451 : decode cL_law 451 = .ok (.sipush 5184, 3) := by decide +kernel
theorem dL_law_454 : decode cL_law 454 = .ok (.idiv, 1) := by decide +kernel
theorem dL_law_455 : decode cL_law 455 = .ok (.bipush 20, 2) := by decide +kernel
theorem dL_law_457 : decode cL_law 457 = .ok (.irem, 1) := by decide +kernel
theorem dL_law_458 : decode cL_law 458 = .ok (.invokestatic 82, 3) := by decide +kernel
theorem dL_law_461 : decode cL_law 461 = .ok (.goto 54, 3) := by decide +kernel
theorem dL_law_464 : decode cL_law 464 = .ok (.iload 6, 2) := by decide +kernel
theorem dL_law_466 : decode cL_law 466 = .ok (.iconst 1, 1) := by decide +kernel
theorem dL_law_467 : decode cL_law 467 = .ok (.if_icmp .ne 27, 3) := by decide +kernel
theorem dL_law_470 : decode cL_law 470 = .ok (.aload_n 1, 1) := by decide +kernel
theorem dL_law_471 : decode cL_law 471 = .ok (.iconst 1, 1) := by decide +kernel
theorem dL_law_472 : decode cL_law 472 = .ok (.iload 5, 2) := by decide +kernel
theorem dL_law_474 : decode cL_law 474 = .ok (.sipush 324, 3) := by decide +kernel
theorem dL_law_477 : decode cL_law 477 = .ok (.idiv, 1) := by decide +kernel
theorem dL_law_478 : decode cL_law 478 = .ok (.iconst 4, 1) := by decide +kernel
theorem dL_law_479 : decode cL_law 479 = .ok (.irem, 1) := by decide +kernel
theorem dL_law_480 : decode cL_law 480 = .ok (.iload 5, 2) := by decide +kernel
theorem dL_law_482 : decode cL_law 482 = .ok (.sipush 1296, 3) := by decide +kernel
theorem dL_law_485 : decode cL_law 485 = .ok (.idiv, 1) := by decide +kernel
theorem dL_law_486 : decode cL_law 486 = .ok (.iconst 2, 1) := by decide +kernel
theorem dL_law_487 : decode cL_law 487 = .ok (.irem, 1) := by decide +kernel
theorem dL_law_488 : decode cL_law 488 = .ok (.invokestatic 82, 3) := by decide +kernel
theorem dL_law_491 : decode cL_law 491 = .ok (.goto 24, 3) := by decide +kernel
theorem dL_law_494 : decode cL_law 494 = .ok (.aload_n 1, 1) := by decide +kernel
theorem dL_law_495 : decode cL_law 495 = .ok (.iconst 2, 1) := by decide +kernel
theorem dL_law_496 : decode cL_law 496 = .ok (.iload 5, 2) := by decide +kernel
theorem dL_law_498 : decode cL_law 498 = .ok (.sipush 324, 3) := by decide +kernel
theorem dL_law_501 : decode cL_law 501 = .ok (.idiv, 1) := by decide +kernel
theorem dL_law_502 : decode cL_law 502 = .ok (.iconst 4, 1) := by decide +kernel
theorem dL_law_503 : decode cL_law 503 = .ok (.irem, 1) := by decide +kernel
theorem dL_law_504 : decode cL_law 504 = .ok (.iload 5, 2) := by decide +kernel
theorem dL_law_506 : decode cL_law 506 = .ok (.sipush 1296, 3) := by decide +kernel
theorem dL_law_509 : decode cL_law 509 = .ok (.idiv, 1) := by decide +kernel
theorem dL_law_510 : decode cL_law 510 = .ok (.iconst 3, 1) := by decide +kernel
theorem dL_law_511 : decode cL_law 511 = .ok (.irem, 1) := by decide +kernel
theorem dL_law_512 : decode cL_law 512 = .ok (.invokestatic 82, 3) := by decide +kernel
theorem dL_law_515 : decode cL_law 515 = .ok (.istore 7, 2) := by decide +kernel
theorem dL_law_517 : decode cL_law 517 = .ok (.iload_n 2, 1) := by decide +kernel
theorem dL_law_518 : decode cL_law 518 = .ok (.ifCond .eq 30, 3) := by decide +kernel
theorem dL_law_521 : decode cL_law 521 = .ok (.iload 7, 2) := by decide +kernel
theorem dL_law_523 : decode cL_law 523 = .ok (.ifCond .lt 25, 3) := by decide +kernel
theorem dL_law_526 : decode cL_law 526 = .ok (.aload_n 1, 1) := by decide +kernel
theorem dL_law_527 : decode cL_law 527 = .ok (.iconst 1, 1) := by decide +kernel
theorem dL_law_528 : decode cL_law 528 = .ok (.iload 5, 2) := by decide +kernel
theorem dL_law_530 : decode cL_law 530 = .ok (.bipush 31, 2) := by decide +kernel
theorem dL_law_532 : decode cL_law 532 = .ok (.idiv, 1) := by decide +kernel
theorem dL_law_533 : decode cL_law 533 = .ok (.bipush 63, 2) := by decide +kernel
theorem dL_law_535 : decode cL_law 535 = .ok (.irem, 1) := by decide +kernel
theorem dL_law_536 : decode cL_law 536 = .ok (.iadd, 1) := by decide +kernel
theorem dL_law_537 : decode cL_law 537 = .ok (.iload_n 3, 1) := by decide +kernel
theorem dL_law_538 : decode cL_law 538 = .ok (.invokestatic 112, 3) := by decide +kernel
theorem dL_law_541 : decode cL_law 541 = .ok (.ifCond .eq 7, 3) := by decide +kernel
theorem dL_law_544 : decode cL_law 544 = .ok (.iconst 1, 1) := by decide +kernel
theorem dL_law_545 : decode cL_law 545 = .ok (.goto 4, 3) := by decide +kernel
theorem dL_law_548 : decode cL_law 548 = .ok (.iconst 0, 1) := by decide +kernel
theorem dL_law_549 : decode cL_law 549 = .ok (.istore_n 2, 1) := by decide +kernel
theorem dL_law_550 : decode cL_law 550 = .ok (.iinc 4 1, 3) := by decide +kernel
theorem dL_law_553 : decode cL_law 553 = .ok (.goto (-242), 3) := by decide +kernel
theorem dL_law_556 : decode cL_law 556 = .ok (.iload_n 2, 1) := by decide +kernel
theorem dL_law_557 : decode cL_law 557 = .ok (.ireturn, 1) := by decide +kernel
